section
-- ===== PART A: goes FIRST, ahead of the names: the tables' words, and 'selects' of the private methods out of them =====
/-- a private method of a class that the tables say can be made, by its rows of tables_1 -/
def lw_okq (q : MethodName × Nat) : Prop := (q.1.cls ≠ "java/lang/invoke/MethodHandle" ∧ q.1.cls ≠ "java/lang/invoke/VarHandle") ∧ Cond.instantiable q.1.cls q.2 ∈ tables_1 ∧ Cond.privateMethod q.1 ∈ tables_1 ∧ Cond.instanceMethod q.1 ∈ tables_1
theorem lw_p0 : lw_okq (⟨"QueuePlaces", "anew", "(LQueuePlaces$Shelf;III)I"⟩, 14) := ⟨⟨by decide +kernel, by decide +kernel⟩, List.mem_of_getElem? (i := 17) (by decide +kernel), List.mem_of_getElem? (i := 310) (by decide +kernel), List.mem_of_getElem? (i := 311) (by decide +kernel)⟩
theorem lw_p1 : lw_okq (⟨"QueuePlaces", "found", "(I)I"⟩, 14) := ⟨⟨by decide +kernel, by decide +kernel⟩, List.mem_of_getElem? (i := 17) (by decide +kernel), List.mem_of_getElem? (i := 318) (by decide +kernel), List.mem_of_getElem? (i := 319) (by decide +kernel)⟩
theorem lw_p2 : lw_okq (⟨"QueuePlaces", "refusalOfPlace", "(LQueuePlaces$Shelf;II)I"⟩, 14) := ⟨⟨by decide +kernel, by decide +kernel⟩, List.mem_of_getElem? (i := 17) (by decide +kernel), List.mem_of_getElem? (i := 331) (by decide +kernel), List.mem_of_getElem? (i := 332) (by decide +kernel)⟩
theorem lw_p3 : lw_okq (⟨"QueuePlaces", "refusalOf", "(LQueuePlaces$Shelf;I)I"⟩, 14) := ⟨⟨by decide +kernel, by decide +kernel⟩, List.mem_of_getElem? (i := 17) (by decide +kernel), List.mem_of_getElem? (i := 335) (by decide +kernel), List.mem_of_getElem? (i := 336) (by decide +kernel)⟩
theorem lw_p4 : lw_okq (⟨"QueuePlaces", "tell", "(I)I"⟩, 14) := ⟨⟨by decide +kernel, by decide +kernel⟩, List.mem_of_getElem? (i := 17) (by decide +kernel), List.mem_of_getElem? (i := 360) (by decide +kernel), List.mem_of_getElem? (i := 361) (by decide +kernel)⟩
theorem lw_p5 : lw_okq (⟨"QueuePlaces$Reader", "skipBlanks", "()V"⟩, 4) := ⟨⟨by decide +kernel, by decide +kernel⟩, List.mem_of_getElem? (i := 46) (by decide +kernel), List.mem_of_getElem? (i := 423) (by decide +kernel), List.mem_of_getElem? (i := 424) (by decide +kernel)⟩
theorem lw_p6 : lw_okq (⟨"QueuePlaces$Reader", "readLoaves", "()Z"⟩, 4) := ⟨⟨by decide +kernel, by decide +kernel⟩, List.mem_of_getElem? (i := 46) (by decide +kernel), List.mem_of_getElem? (i := 429) (by decide +kernel), List.mem_of_getElem? (i := 430) (by decide +kernel)⟩
theorem lw_p7 : lw_okq (⟨"QueuePlaces$Reader", "figureAt", "(I)I"⟩, 4) := ⟨⟨by decide +kernel, by decide +kernel⟩, List.mem_of_getElem? (i := 46) (by decide +kernel), List.mem_of_getElem? (i := 433) (by decide +kernel), List.mem_of_getElem? (i := 434) (by decide +kernel)⟩
theorem lw_p8 : lw_okq (⟨"QueuePlaces$Reader", "readPeople", "()I"⟩, 4) := ⟨⟨by decide +kernel, by decide +kernel⟩, List.mem_of_getElem? (i := 46) (by decide +kernel), List.mem_of_getElem? (i := 438) (by decide +kernel), List.mem_of_getElem? (i := 439) (by decide +kernel)⟩
theorem lw_p9 : lw_okq (⟨"QueuePlaces$Reader", "kindAt", "(I)I"⟩, 4) := ⟨⟨by decide +kernel, by decide +kernel⟩, List.mem_of_getElem? (i := 46) (by decide +kernel), List.mem_of_getElem? (i := 442) (by decide +kernel), List.mem_of_getElem? (i := 443) (by decide +kernel)⟩
theorem lw_p10 : lw_okq (⟨"QueuePlaces$Serving", "serveOne", "(II)V"⟩, 10) := ⟨⟨by decide +kernel, by decide +kernel⟩, List.mem_of_getElem? (i := 102) (by decide +kernel), List.mem_of_getElem? (i := 506) (by decide +kernel), List.mem_of_getElem? (i := 507) (by decide +kernel)⟩
theorem lw_p11 : lw_okq (⟨"QueuePlaces", "trait", "(II)I"⟩, 14) := ⟨⟨by decide +kernel, by decide +kernel⟩, List.mem_of_getElem? (i := 17) (by decide +kernel), List.mem_of_getElem? (i := 514) (by decide +kernel), List.mem_of_getElem? (i := 515) (by decide +kernel)⟩
theorem lw_p12 : lw_okq (⟨"QueuePlaces$Line", "sell", "(I)V"⟩, 8) := ⟨⟨by decide +kernel, by decide +kernel⟩, List.mem_of_getElem? (i := 94) (by decide +kernel), List.mem_of_getElem? (i := 579) (by decide +kernel), List.mem_of_getElem? (i := 580) (by decide +kernel)⟩
theorem lw_p13 : lw_okq (⟨"QueuePlaces$Search", "reach", "(II)V"⟩, 6) := ⟨⟨by decide +kernel, by decide +kernel⟩, List.mem_of_getElem? (i := 185) (by decide +kernel), List.mem_of_getElem? (i := 675) (by decide +kernel), List.mem_of_getElem? (i := 676) (by decide +kernel)⟩
theorem lw_p14 : lw_okq (⟨"QueuePlaces$Search", "fits", "(IIII)Z"⟩, 6) := ⟨⟨by decide +kernel, by decide +kernel⟩, List.mem_of_getElem? (i := 185) (by decide +kernel), List.mem_of_getElem? (i := 688) (by decide +kernel), List.mem_of_getElem? (i := 689) (by decide +kernel)⟩
theorem lw_p15 : lw_okq (⟨"QueuePlaces$Search", "goOn", "(II)V"⟩, 6) := ⟨⟨by decide +kernel, by decide +kernel⟩, List.mem_of_getElem? (i := 185) (by decide +kernel), List.mem_of_getElem? (i := 696) (by decide +kernel), List.mem_of_getElem? (i := 697) (by decide +kernel)⟩
def lw_privs_1 : List (MethodName × Nat) := [(⟨"QueuePlaces", "anew", "(LQueuePlaces$Shelf;III)I"⟩, 14), (⟨"QueuePlaces", "found", "(I)I"⟩, 14), (⟨"QueuePlaces", "refusalOfPlace", "(LQueuePlaces$Shelf;II)I"⟩, 14), (⟨"QueuePlaces", "refusalOf", "(LQueuePlaces$Shelf;I)I"⟩, 14), (⟨"QueuePlaces", "tell", "(I)I"⟩, 14), (⟨"QueuePlaces$Reader", "skipBlanks", "()V"⟩, 4), (⟨"QueuePlaces$Reader", "readLoaves", "()Z"⟩, 4), (⟨"QueuePlaces$Reader", "figureAt", "(I)I"⟩, 4), (⟨"QueuePlaces$Reader", "readPeople", "()I"⟩, 4), (⟨"QueuePlaces$Reader", "kindAt", "(I)I"⟩, 4), (⟨"QueuePlaces$Serving", "serveOne", "(II)V"⟩, 10), (⟨"QueuePlaces", "trait", "(II)I"⟩, 14), (⟨"QueuePlaces$Line", "sell", "(I)V"⟩, 8), (⟨"QueuePlaces$Search", "reach", "(II)V"⟩, 6), (⟨"QueuePlaces$Search", "fits", "(IIII)Z"⟩, 6), (⟨"QueuePlaces$Search", "goOn", "(II)V"⟩, 6)]
theorem lw_r1 : ∀ q ∈ lw_privs_1, lw_okq q := List.forall_mem_cons.mpr ⟨lw_p0, List.forall_mem_cons.mpr ⟨lw_p1, List.forall_mem_cons.mpr ⟨lw_p2, List.forall_mem_cons.mpr ⟨lw_p3, List.forall_mem_cons.mpr ⟨lw_p4, List.forall_mem_cons.mpr ⟨lw_p5, List.forall_mem_cons.mpr ⟨lw_p6, List.forall_mem_cons.mpr ⟨lw_p7, List.forall_mem_cons.mpr ⟨lw_p8, List.forall_mem_cons.mpr ⟨lw_p9, List.forall_mem_cons.mpr ⟨lw_p10, List.forall_mem_cons.mpr ⟨lw_p11, List.forall_mem_cons.mpr ⟨lw_p12, List.forall_mem_cons.mpr ⟨lw_p13, List.forall_mem_cons.mpr ⟨lw_p14, List.forall_mem_cons.mpr ⟨lw_p15, fun _ h => absurd h List.not_mem_nil⟩⟩⟩⟩⟩⟩⟩⟩⟩⟩⟩⟩⟩⟩⟩⟩
theorem lw_p16 : lw_okq (⟨"QueuePlaces", "refusalOfPairs", "(I)I"⟩, 14) := ⟨⟨by decide +kernel, by decide +kernel⟩, List.mem_of_getElem? (i := 17) (by decide +kernel), List.mem_of_getElem? (i := 709) (by decide +kernel), List.mem_of_getElem? (i := 710) (by decide +kernel)⟩
theorem lw_p17 : lw_okq (⟨"QueuePlaces", "tallyOrders", "(I)V"⟩, 14) := ⟨⟨by decide +kernel, by decide +kernel⟩, List.mem_of_getElem? (i := 17) (by decide +kernel), List.mem_of_getElem? (i := 713) (by decide +kernel), List.mem_of_getElem? (i := 714) (by decide +kernel)⟩
theorem lw_p18 : lw_okq (⟨"QueuePlaces$Orders", "extend", "(III)V"⟩, 5) := ⟨⟨by decide +kernel, by decide +kernel⟩, List.mem_of_getElem? (i := 211) (by decide +kernel), List.mem_of_getElem? (i := 725) (by decide +kernel), List.mem_of_getElem? (i := 726) (by decide +kernel)⟩
theorem lw_p19 : lw_okq (⟨"QueuePlaces$Orders", "tallyOne", "(I)V"⟩, 5) := ⟨⟨by decide +kernel, by decide +kernel⟩, List.mem_of_getElem? (i := 211) (by decide +kernel), List.mem_of_getElem? (i := 729) (by decide +kernel), List.mem_of_getElem? (i := 730) (by decide +kernel)⟩
theorem lw_p20 : lw_okq (⟨"QueuePlaces", "tellRatio", "(JJ)I"⟩, 14) := ⟨⟨by decide +kernel, by decide +kernel⟩, List.mem_of_getElem? (i := 17) (by decide +kernel), List.mem_of_getElem? (i := 738) (by decide +kernel), List.mem_of_getElem? (i := 739) (by decide +kernel)⟩
theorem lw_p21 : lw_okq (⟨"QueuePlaces$Match", "play", "(II)I"⟩, 3) := ⟨⟨by decide +kernel, by decide +kernel⟩, List.mem_of_getElem? (i := 234) (by decide +kernel), List.mem_of_getElem? (i := 783) (by decide +kernel), List.mem_of_getElem? (i := 784) (by decide +kernel)⟩
theorem lw_p22 : lw_okq (⟨"QueuePlaces$Chances", "serveSet", "(I)V"⟩, 2) := ⟨⟨by decide +kernel, by decide +kernel⟩, List.mem_of_getElem? (i := 250) (by decide +kernel), List.mem_of_getElem? (i := 798) (by decide +kernel), List.mem_of_getElem? (i := 799) (by decide +kernel)⟩
theorem lw_p23 : lw_okq (⟨"QueuePlaces$Chances", "weight", "(I)J"⟩, 2) := ⟨⟨by decide +kernel, by decide +kernel⟩, List.mem_of_getElem? (i := 250) (by decide +kernel), List.mem_of_getElem? (i := 805) (by decide +kernel), List.mem_of_getElem? (i := 806) (by decide +kernel)⟩
theorem lw_p24 : lw_okq (⟨"QueuePlaces", "amount", "(I)I"⟩, 14) := ⟨⟨by decide +kernel, by decide +kernel⟩, List.mem_of_getElem? (i := 17) (by decide +kernel), List.mem_of_getElem? (i := 860) (by decide +kernel), List.mem_of_getElem? (i := 861) (by decide +kernel)⟩
theorem lw_p25 : lw_okq (⟨"QueuePlacesModel", "finds", "(I)I"⟩, 27) := ⟨⟨by decide +kernel, by decide +kernel⟩, List.mem_of_getElem? (i := 892) (by decide +kernel), List.mem_of_getElem? (i := 991) (by decide +kernel), List.mem_of_getElem? (i := 992) (by decide +kernel)⟩
theorem lw_p26 : lw_okq (⟨"QueuePlacesModel", "asks", "(I)I"⟩, 27) := ⟨⟨by decide +kernel, by decide +kernel⟩, List.mem_of_getElem? (i := 892) (by decide +kernel), List.mem_of_getElem? (i := 1003) (by decide +kernel), List.mem_of_getElem? (i := 1004) (by decide +kernel)⟩
theorem lw_p27 : lw_okq (⟨"QueuePlacesModel", "faultOf", "(I)I"⟩, 27) := ⟨⟨by decide +kernel, by decide +kernel⟩, List.mem_of_getElem? (i := 892) (by decide +kernel), List.mem_of_getElem? (i := 1036) (by decide +kernel), List.mem_of_getElem? (i := 1037) (by decide +kernel)⟩
theorem lw_p28 : lw_okq (⟨"QueuePlacesModel", "takesFirst", "(I)Z"⟩, 27) := ⟨⟨by decide +kernel, by decide +kernel⟩, List.mem_of_getElem? (i := 892) (by decide +kernel), List.mem_of_getElem? (i := 1040) (by decide +kernel), List.mem_of_getElem? (i := 1041) (by decide +kernel)⟩
theorem lw_p29 : lw_okq (⟨"QueuePlacesModel", "skip", "(I)V"⟩, 27) := ⟨⟨by decide +kernel, by decide +kernel⟩, List.mem_of_getElem? (i := 892) (by decide +kernel), List.mem_of_getElem? (i := 1044) (by decide +kernel), List.mem_of_getElem? (i := 1045) (by decide +kernel)⟩
theorem lw_p30 : lw_okq (⟨"QueuePlacesModel", "here", "(I)I"⟩, 27) := ⟨⟨by decide +kernel, by decide +kernel⟩, List.mem_of_getElem? (i := 892) (by decide +kernel), List.mem_of_getElem? (i := 1048) (by decide +kernel), List.mem_of_getElem? (i := 1049) (by decide +kernel)⟩
theorem lw_p31 : lw_okq (⟨"QueuePlacesModel", "takes", "(III)Z"⟩, 27) := ⟨⟨by decide +kernel, by decide +kernel⟩, List.mem_of_getElem? (i := 892) (by decide +kernel), List.mem_of_getElem? (i := 1052) (by decide +kernel), List.mem_of_getElem? (i := 1053) (by decide +kernel)⟩
def lw_privs_2 : List (MethodName × Nat) := [(⟨"QueuePlaces", "refusalOfPairs", "(I)I"⟩, 14), (⟨"QueuePlaces", "tallyOrders", "(I)V"⟩, 14), (⟨"QueuePlaces$Orders", "extend", "(III)V"⟩, 5), (⟨"QueuePlaces$Orders", "tallyOne", "(I)V"⟩, 5), (⟨"QueuePlaces", "tellRatio", "(JJ)I"⟩, 14), (⟨"QueuePlaces$Match", "play", "(II)I"⟩, 3), (⟨"QueuePlaces$Chances", "serveSet", "(I)V"⟩, 2), (⟨"QueuePlaces$Chances", "weight", "(I)J"⟩, 2), (⟨"QueuePlaces", "amount", "(I)I"⟩, 14), (⟨"QueuePlacesModel", "finds", "(I)I"⟩, 27), (⟨"QueuePlacesModel", "asks", "(I)I"⟩, 27), (⟨"QueuePlacesModel", "faultOf", "(I)I"⟩, 27), (⟨"QueuePlacesModel", "takesFirst", "(I)Z"⟩, 27), (⟨"QueuePlacesModel", "skip", "(I)V"⟩, 27), (⟨"QueuePlacesModel", "here", "(I)I"⟩, 27), (⟨"QueuePlacesModel", "takes", "(III)Z"⟩, 27)]
theorem lw_r2 : ∀ q ∈ lw_privs_2, lw_okq q := List.forall_mem_cons.mpr ⟨lw_p16, List.forall_mem_cons.mpr ⟨lw_p17, List.forall_mem_cons.mpr ⟨lw_p18, List.forall_mem_cons.mpr ⟨lw_p19, List.forall_mem_cons.mpr ⟨lw_p20, List.forall_mem_cons.mpr ⟨lw_p21, List.forall_mem_cons.mpr ⟨lw_p22, List.forall_mem_cons.mpr ⟨lw_p23, List.forall_mem_cons.mpr ⟨lw_p24, List.forall_mem_cons.mpr ⟨lw_p25, List.forall_mem_cons.mpr ⟨lw_p26, List.forall_mem_cons.mpr ⟨lw_p27, List.forall_mem_cons.mpr ⟨lw_p28, List.forall_mem_cons.mpr ⟨lw_p29, List.forall_mem_cons.mpr ⟨lw_p30, List.forall_mem_cons.mpr ⟨lw_p31, fun _ h => absurd h List.not_mem_nil⟩⟩⟩⟩⟩⟩⟩⟩⟩⟩⟩⟩⟩⟩⟩⟩
theorem lw_p32 : lw_okq (⟨"QueuePlacesModel", "takesOne", "(I)Z"⟩, 27) := ⟨⟨by decide +kernel, by decide +kernel⟩, List.mem_of_getElem? (i := 892) (by decide +kernel), List.mem_of_getElem? (i := 1057) (by decide +kernel), List.mem_of_getElem? (i := 1058) (by decide +kernel)⟩
theorem lw_p33 : lw_okq (⟨"QueuePlacesModel", "isOne", "(I)Z"⟩, 27) := ⟨⟨by decide +kernel, by decide +kernel⟩, List.mem_of_getElem? (i := 892) (by decide +kernel), List.mem_of_getElem? (i := 1075) (by decide +kernel), List.mem_of_getElem? (i := 1076) (by decide +kernel)⟩
theorem lw_p34 : lw_okq (⟨"QueuePlacesModel", "toldOf", "(II)I"⟩, 27) := ⟨⟨by decide +kernel, by decide +kernel⟩, List.mem_of_getElem? (i := 892) (by decide +kernel), List.mem_of_getElem? (i := 1080) (by decide +kernel), List.mem_of_getElem? (i := 1081) (by decide +kernel)⟩
theorem lw_p35 : lw_okq (⟨"QueuePlacesModel", "serveNow", "()V"⟩, 27) := ⟨⟨by decide +kernel, by decide +kernel⟩, List.mem_of_getElem? (i := 892) (by decide +kernel), List.mem_of_getElem? (i := 1084) (by decide +kernel), List.mem_of_getElem? (i := 1085) (by decide +kernel)⟩
theorem lw_p36 : lw_okq (⟨"QueuePlacesModel", "serve", "([III)V"⟩, 27) := ⟨⟨by decide +kernel, by decide +kernel⟩, List.mem_of_getElem? (i := 892) (by decide +kernel), List.mem_of_getElem? (i := 1088) (by decide +kernel), List.mem_of_getElem? (i := 1089) (by decide +kernel)⟩
theorem lw_p37 : lw_okq (⟨"QueuePlacesModel", "placeOf", "(I)I"⟩, 27) := ⟨⟨by decide +kernel, by decide +kernel⟩, List.mem_of_getElem? (i := 892) (by decide +kernel), List.mem_of_getElem? (i := 1098) (by decide +kernel), List.mem_of_getElem? (i := 1099) (by decide +kernel)⟩
theorem lw_p38 : lw_okq (⟨"QueuePlacesModel", "metWith", "(I)I"⟩, 27) := ⟨⟨by decide +kernel, by decide +kernel⟩, List.mem_of_getElem? (i := 892) (by decide +kernel), List.mem_of_getElem? (i := 1105) (by decide +kernel), List.mem_of_getElem? (i := 1106) (by decide +kernel)⟩
theorem lw_p39 : lw_okq (⟨"QueuePlacesModel", "othersAhead", "(I)I"⟩, 27) := ⟨⟨by decide +kernel, by decide +kernel⟩, List.mem_of_getElem? (i := 892) (by decide +kernel), List.mem_of_getElem? (i := 1116) (by decide +kernel), List.mem_of_getElem? (i := 1117) (by decide +kernel)⟩
theorem lw_p40 : lw_okq (⟨"QueuePlacesModel", "does", "(I)I"⟩, 27) := ⟨⟨by decide +kernel, by decide +kernel⟩, List.mem_of_getElem? (i := 892) (by decide +kernel), List.mem_of_getElem? (i := 1124) (by decide +kernel), List.mem_of_getElem? (i := 1125) (by decide +kernel)⟩
theorem lw_p41 : lw_okq (⟨"QueuePlacesModel", "isTicket", "(I)Z"⟩, 27) := ⟨⟨by decide +kernel, by decide +kernel⟩, List.mem_of_getElem? (i := 892) (by decide +kernel), List.mem_of_getElem? (i := 1144) (by decide +kernel), List.mem_of_getElem? (i := 1145) (by decide +kernel)⟩
theorem lw_p42 : lw_okq (⟨"QueuePlacesModel", "getsAt", "(II)I"⟩, 27) := ⟨⟨by decide +kernel, by decide +kernel⟩, List.mem_of_getElem? (i := 892) (by decide +kernel), List.mem_of_getElem? (i := 1185) (by decide +kernel), List.mem_of_getElem? (i := 1186) (by decide +kernel)⟩
theorem lw_p43 : lw_okq (⟨"QueuePlacesModel", "layHand", "()V"⟩, 27) := ⟨⟨by decide +kernel, by decide +kernel⟩, List.mem_of_getElem? (i := 892) (by decide +kernel), List.mem_of_getElem? (i := 1189) (by decide +kernel), List.mem_of_getElem? (i := 1190) (by decide +kernel)⟩
theorem lw_p44 : lw_okq (⟨"QueuePlacesModel", "goes", "(IIIII)Z"⟩, 27) := ⟨⟨by decide +kernel, by decide +kernel⟩, List.mem_of_getElem? (i := 892) (by decide +kernel), List.mem_of_getElem? (i := 1205) (by decide +kernel), List.mem_of_getElem? (i := 1206) (by decide +kernel)⟩
theorem lw_p45 : lw_okq (⟨"QueuePlacesModel", "refusesPairs", "(I)I"⟩, 27) := ⟨⟨by decide +kernel, by decide +kernel⟩, List.mem_of_getElem? (i := 892) (by decide +kernel), List.mem_of_getElem? (i := 1213) (by decide +kernel), List.mem_of_getElem? (i := 1214) (by decide +kernel)⟩
theorem lw_p46 : lw_okq (⟨"QueuePlacesModel", "manyOrders", "()I"⟩, 27) := ⟨⟨by decide +kernel, by decide +kernel⟩, List.mem_of_getElem? (i := 892) (by decide +kernel), List.mem_of_getElem? (i := 1218) (by decide +kernel), List.mem_of_getElem? (i := 1219) (by decide +kernel)⟩
theorem lw_p47 : lw_okq (⟨"QueuePlacesModel", "fits", "(II)Z"⟩, 27) := ⟨⟨by decide +kernel, by decide +kernel⟩, List.mem_of_getElem? (i := 892) (by decide +kernel), List.mem_of_getElem? (i := 1222) (by decide +kernel), List.mem_of_getElem? (i := 1223) (by decide +kernel)⟩
def lw_privs_3 : List (MethodName × Nat) := [(⟨"QueuePlacesModel", "takesOne", "(I)Z"⟩, 27), (⟨"QueuePlacesModel", "isOne", "(I)Z"⟩, 27), (⟨"QueuePlacesModel", "toldOf", "(II)I"⟩, 27), (⟨"QueuePlacesModel", "serveNow", "()V"⟩, 27), (⟨"QueuePlacesModel", "serve", "([III)V"⟩, 27), (⟨"QueuePlacesModel", "placeOf", "(I)I"⟩, 27), (⟨"QueuePlacesModel", "metWith", "(I)I"⟩, 27), (⟨"QueuePlacesModel", "othersAhead", "(I)I"⟩, 27), (⟨"QueuePlacesModel", "does", "(I)I"⟩, 27), (⟨"QueuePlacesModel", "isTicket", "(I)Z"⟩, 27), (⟨"QueuePlacesModel", "getsAt", "(II)I"⟩, 27), (⟨"QueuePlacesModel", "layHand", "()V"⟩, 27), (⟨"QueuePlacesModel", "goes", "(IIIII)Z"⟩, 27), (⟨"QueuePlacesModel", "refusesPairs", "(I)I"⟩, 27), (⟨"QueuePlacesModel", "manyOrders", "()I"⟩, 27), (⟨"QueuePlacesModel", "fits", "(II)Z"⟩, 27)]
theorem lw_r3 : ∀ q ∈ lw_privs_3, lw_okq q := List.forall_mem_cons.mpr ⟨lw_p32, List.forall_mem_cons.mpr ⟨lw_p33, List.forall_mem_cons.mpr ⟨lw_p34, List.forall_mem_cons.mpr ⟨lw_p35, List.forall_mem_cons.mpr ⟨lw_p36, List.forall_mem_cons.mpr ⟨lw_p37, List.forall_mem_cons.mpr ⟨lw_p38, List.forall_mem_cons.mpr ⟨lw_p39, List.forall_mem_cons.mpr ⟨lw_p40, List.forall_mem_cons.mpr ⟨lw_p41, List.forall_mem_cons.mpr ⟨lw_p42, List.forall_mem_cons.mpr ⟨lw_p43, List.forall_mem_cons.mpr ⟨lw_p44, List.forall_mem_cons.mpr ⟨lw_p45, List.forall_mem_cons.mpr ⟨lw_p46, List.forall_mem_cons.mpr ⟨lw_p47, fun _ h => absurd h List.not_mem_nil⟩⟩⟩⟩⟩⟩⟩⟩⟩⟩⟩⟩⟩⟩⟩⟩
theorem lw_p48 : lw_okq (⟨"QueuePlacesModel", "layOrder", "(I)V"⟩, 27) := ⟨⟨by decide +kernel, by decide +kernel⟩, List.mem_of_getElem? (i := 892) (by decide +kernel), List.mem_of_getElem? (i := 1226) (by decide +kernel), List.mem_of_getElem? (i := 1227) (by decide +kernel)⟩
theorem lw_p49 : lw_okq (⟨"QueuePlacesModel", "wantedBy", "(I)I"⟩, 27) := ⟨⟨by decide +kernel, by decide +kernel⟩, List.mem_of_getElem? (i := 892) (by decide +kernel), List.mem_of_getElem? (i := 1246) (by decide +kernel), List.mem_of_getElem? (i := 1247) (by decide +kernel)⟩
theorem lw_p50 : lw_okq (⟨"QueuePlacesModel", "goChoices", "(III)I"⟩, 27) := ⟨⟨by decide +kernel, by decide +kernel⟩, List.mem_of_getElem? (i := 892) (by decide +kernel), List.mem_of_getElem? (i := 1262) (by decide +kernel), List.mem_of_getElem? (i := 1263) (by decide +kernel)⟩
theorem lw_p51 : lw_okq (⟨"QueuePlacesModel", "goOdds", "(II)V"⟩, 27) := ⟨⟨by decide +kernel, by decide +kernel⟩, List.mem_of_getElem? (i := 892) (by decide +kernel), List.mem_of_getElem? (i := 1271) (by decide +kernel), List.mem_of_getElem? (i := 1272) (by decide +kernel)⟩
theorem lw_p52 : lw_okq (⟨"QueuePlacesModel", "fraction", "(JJ)V"⟩, 27) := ⟨⟨by decide +kernel, by decide +kernel⟩, List.mem_of_getElem? (i := 892) (by decide +kernel), List.mem_of_getElem? (i := 1275) (by decide +kernel), List.mem_of_getElem? (i := 1276) (by decide +kernel)⟩
theorem lw_p53 : lw_okq (⟨"QueuePlacesModel", "deedBy", "(J)I"⟩, 27) := ⟨⟨by decide +kernel, by decide +kernel⟩, List.mem_of_getElem? (i := 892) (by decide +kernel), List.mem_of_getElem? (i := 1290) (by decide +kernel), List.mem_of_getElem? (i := 1291) (by decide +kernel)⟩
theorem lw_p54 : lw_okq (⟨"QueuePlacesModel", "gotAll", "()I"⟩, 27) := ⟨⟨by decide +kernel, by decide +kernel⟩, List.mem_of_getElem? (i := 892) (by decide +kernel), List.mem_of_getElem? (i := 1297) (by decide +kernel), List.mem_of_getElem? (i := 1298) (by decide +kernel)⟩
theorem lw_p55 : lw_okq (⟨"QueuePlacesModel", "counted", "(I)I"⟩, 27) := ⟨⟨by decide +kernel, by decide +kernel⟩, List.mem_of_getElem? (i := 892) (by decide +kernel), List.mem_of_getElem? (i := 1318) (by decide +kernel), List.mem_of_getElem? (i := 1319) (by decide +kernel)⟩
theorem lw_p56 : lw_okq (⟨"QueuePlacesModel", "whoIs", "(Z)I"⟩, 27) := ⟨⟨by decide +kernel, by decide +kernel⟩, List.mem_of_getElem? (i := 892) (by decide +kernel), List.mem_of_getElem? (i := 1322) (by decide +kernel), List.mem_of_getElem? (i := 1323) (by decide +kernel)⟩
theorem lw_p57 : lw_okq (⟨"QueuePlacesModel", "manyOf", "(I)I"⟩, 27) := ⟨⟨by decide +kernel, by decide +kernel⟩, List.mem_of_getElem? (i := 892) (by decide +kernel), List.mem_of_getElem? (i := 1326) (by decide +kernel), List.mem_of_getElem? (i := 1327) (by decide +kernel)⟩
def lw_privs_4 : List (MethodName × Nat) := [(⟨"QueuePlacesModel", "layOrder", "(I)V"⟩, 27), (⟨"QueuePlacesModel", "wantedBy", "(I)I"⟩, 27), (⟨"QueuePlacesModel", "goChoices", "(III)I"⟩, 27), (⟨"QueuePlacesModel", "goOdds", "(II)V"⟩, 27), (⟨"QueuePlacesModel", "fraction", "(JJ)V"⟩, 27), (⟨"QueuePlacesModel", "deedBy", "(J)I"⟩, 27), (⟨"QueuePlacesModel", "gotAll", "()I"⟩, 27), (⟨"QueuePlacesModel", "counted", "(I)I"⟩, 27), (⟨"QueuePlacesModel", "whoIs", "(Z)I"⟩, 27), (⟨"QueuePlacesModel", "manyOf", "(I)I"⟩, 27)]
theorem lw_r4 : ∀ q ∈ lw_privs_4, lw_okq q := List.forall_mem_cons.mpr ⟨lw_p48, List.forall_mem_cons.mpr ⟨lw_p49, List.forall_mem_cons.mpr ⟨lw_p50, List.forall_mem_cons.mpr ⟨lw_p51, List.forall_mem_cons.mpr ⟨lw_p52, List.forall_mem_cons.mpr ⟨lw_p53, List.forall_mem_cons.mpr ⟨lw_p54, List.forall_mem_cons.mpr ⟨lw_p55, List.forall_mem_cons.mpr ⟨lw_p56, List.forall_mem_cons.mpr ⟨lw_p57, fun _ h => absurd h List.not_mem_nil⟩⟩⟩⟩⟩⟩⟩⟩⟩⟩
def lw_privs : List (MethodName × Nat) := lw_privs_1 ++ (lw_privs_2 ++ (lw_privs_3 ++ (lw_privs_4)))
def lw_tbl : List Cond := k2_sels lw_privs ++ tables_1
theorem lw_privs_ok : ∀ q ∈ lw_privs, lw_okq q := by
  show ∀ q ∈ lw_privs_1 ++ (lw_privs_2 ++ (lw_privs_3 ++ (lw_privs_4))), lw_okq q
  exact List.forall_mem_append.mpr ⟨lw_r1, List.forall_mem_append.mpr ⟨lw_r2, List.forall_mem_append.mpr ⟨lw_r3, lw_r4⟩⟩⟩
end
section
/-! THE PROGRAM AS TABLES (printed by a program of mine out of the bytecode): classes, fields, methods, code -/
def qp_RL : List String := ["QueuePlaces", "QueuePlaces$Shelf", "QueuePlaces$Reader", "QueuePlaces$Crowd", "QueuePlaces$Line", "QueuePlaces$Serving", "QueuePlaces$Search", "QueuePlaces$Orders", "QueuePlaces$Match", "QueuePlaces$Chances", "QueuePlacesModel", "QueuePlaces$Order", "java/lang/Integer", "java/lang/Math", "QueuePlacesLaw"]
def qp_R (o : Nat) : String := qp_RL.getD o ""
def qp_FL : List (List (String × String × Bool)) := [
  [("rows", "LQueuePlaces$Shelf;", true), ("texts", "LQueuePlaces$Shelf;", true), ("kept", "LQueuePlaces$Shelf;", true), ("reader", "LQueuePlaces$Reader;", true), ("line", "LQueuePlaces$Line;", true), ("search", "LQueuePlaces$Search;", true), ("orders", "LQueuePlaces$Orders;", true), ("match", "LQueuePlaces$Match;", true), ("chances", "LQueuePlaces$Chances;", true), ("findingCounts", "[I", true), ("latestFinding", "I", false), ("told", "I", false), ("above", "J", false), ("below", "J", false)],
  [("most", "I", true), ("sizes", "[I", true), ("places", "[I", true)],
  [("crowd", "LQueuePlaces$Crowd;", true), ("texts", "LQueuePlaces$Shelf;", true), ("text", "I", false), ("place", "I", false)],
  [("size", "I", false), ("loaves", "I", false), ("kinds", "[I", true), ("patience", "[I", true)],
  [("crowd", "LQueuePlaces$Crowd;", true), ("serving", "LQueuePlaces$Serving;", true), ("order", "I", false), ("loaves", "I", false), ("tickets", "I", false), ("done", "I", false), ("sales", "[I", true), ("deeds", "[I", true)],
  [("turnedAway", "I", false), ("content", "I", false), ("crowd", "LQueuePlaces$Crowd;", true), ("loaves", "I", false), ("left", "I", false), ("served", "I", false), ("wanted", "[I", true), ("gained", "[I", true), ("turns", "[I", true), ("leftThen", "[I", true)],
  [("line", "LQueuePlaces$Line;", true), ("orders", "[I", true), ("paths", "[I", true), ("seen", "[Z", true), ("reached", "I", false), ("path", "I", false)],
  [("total", "I", false), ("line", "LQueuePlaces$Line;", true), ("known", "[I", true), ("possible", "[I", true), ("parts", "[I", true)],
  [("line", "LQueuePlaces$Line;", true), ("first", "I", false), ("second", "I", false)],
  [("line", "LQueuePlaces$Line;", true), ("size", "I", false)],
  [("now", "[I", true), ("kept", "[I", true), ("isKept", "[Z", true), ("rows", "[I", true), ("rowLong", "[I", true), ("texts", "[I", true), ("textLong", "[I", true), ("found", "[I", true), ("latest", "I", false), ("askedIs", "I", false), ("above", "J", false), ("below", "J", false), ("taken", "[I", true), ("anew", "[I", true), ("place0", "I", false), ("hand", "[I", true), ("got", "[I", true), ("behind", "[I", true), ("leftFor", "[I", true), ("wanted", "[I", true), ("left", "I", false), ("steps", "[I", true), ("order", "[I", true), ("parts", "[I", true), ("choices", "[I", true), ("values", "[I", true), ("there", "[I", true)]]
def qp_T (ci : Nat) : u_T := fun k => (qp_R ci, (qp_FL.getD ci []).getD k ("", "", false))
def qp_NL : List Nat := [14, 3, 4, 4, 8, 10, 6, 5, 3, 2, 27]
def qp_N (ci : Nat) : Nat := qp_NL.getD ci 0
def qp_tyL : List (List FieldType) := [
  [.object "QueuePlaces$Shelf", .object "QueuePlaces$Shelf", .object "QueuePlaces$Shelf", .object "QueuePlaces$Reader", .object "QueuePlaces$Line", .object "QueuePlaces$Search", .object "QueuePlaces$Orders", .object "QueuePlaces$Match", .object "QueuePlaces$Chances", .array .int, .int, .int, .long, .long],
  [.int, .array .int, .array .int],
  [.object "QueuePlaces$Crowd", .object "QueuePlaces$Shelf", .int, .int],
  [.int, .int, .array .int, .array .int],
  [.object "QueuePlaces$Crowd", .object "QueuePlaces$Serving", .int, .int, .int, .int, .array .int, .array .int],
  [.int, .int, .object "QueuePlaces$Crowd", .int, .int, .int, .array .int, .array .int, .array .int, .array .int],
  [.object "QueuePlaces$Line", .array .int, .array .int, .array .boolean, .int, .int],
  [.int, .object "QueuePlaces$Line", .array .int, .array .int, .array .int],
  [.object "QueuePlaces$Line", .int, .int],
  [.object "QueuePlaces$Line", .int],
  [.array .int, .array .int, .array .boolean, .array .int, .array .int, .array .int, .array .int, .array .int, .int, .int, .long, .long, .array .int, .array .int, .int, .array .int, .array .int, .array .int, .array .int, .array .int, .int, .array .int, .array .int, .array .int, .array .int, .array .int, .array .int]]
def qp_ty (ci : Nat) : Nat → FieldType := fun k => (qp_tyL.getD ci []).getD k .int
def qp_nth {α : Type} : List α → Nat → Option α
  | [], _ => none
  | v :: _, 0 => some v
  | _ :: t, n + 1 => qp_nth t n
def qp_lk {α : Type} : List (Nat × α) → Nat → Option α
  | [], _ => none
  | q :: t, i => bif Nat.beq q.1 i then some q.2 else qp_lk t i
/-- a field's kind: 0 int, 1 long, 2 reference; and whether it is final -/
def qp_ftL : Nat → List (Nat × Bool)
  | 0 => [(2, true), (2, true), (2, true), (2, true), (2, true), (2, true), (2, true), (2, true), (2, true), (2, true), (0, false), (0, false), (1, false), (1, false)]
  | 1 => [(0, true), (2, true), (2, true)]
  | 2 => [(2, true), (2, true), (0, false), (0, false)]
  | 3 => [(0, false), (0, false), (2, true), (2, true)]
  | 4 => [(2, true), (2, true), (0, false), (0, false), (0, false), (0, false), (2, true), (2, true)]
  | 5 => [(0, false), (0, false), (2, true), (0, false), (0, false), (0, false), (2, true), (2, true), (2, true), (2, true)]
  | 6 => [(2, true), (2, true), (2, true), (2, true), (0, false), (0, false)]
  | 7 => [(0, false), (2, true), (2, true), (2, true), (2, true)]
  | 8 => [(2, true), (0, false), (0, false)]
  | 9 => [(2, true), (0, false)]
  | 10 => [(2, true), (2, true), (2, true), (2, true), (2, true), (2, true), (2, true), (2, true), (0, false), (0, false), (1, false), (1, false), (2, true), (2, true), (0, false), (2, true), (2, true), (2, true), (2, true), (2, true), (0, false), (2, true), (2, true), (2, true), (2, true), (2, true), (2, true)]
  | _ => []
def qp_ft (ci k : Nat) : Nat := match qp_nth (qp_ftL ci) k with
  | some x => x.1
  | none => 0
def qp_fin (ci k : Nat) : Bool := match qp_nth (qp_ftL ci) k with
  | some x => x.2
  | none => false
/-- what an entry of a class's constant pool names: fields (100 times the class, and the place), methods (10 times the number, and how it is called), classes, constants -/
def qp_fR : Nat → List (Nat × Nat)
  | 0 => [(312, 100), (148, 300), (138, 200), (328, 500), (331, 501), (134, 400), (172, 401), (153, 402), (209, 403), (190, 404), (196, 405), (247, 700), (14, 0), (18, 1), (21, 2), (29, 3), (36, 4), (45, 5), (52, 6), (59, 7), (66, 8), (70, 9), (298, 10), (289, 11), (292, 12), (74, 13)]
  | 1 => [(7, 100), (19, 101), (23, 102)]
  | 2 => [(56, 301), (12, 200), (18, 201), (22, 202), (26, 203)]
  | 3 => [(18, 300), (22, 301), (9, 302), (15, 303)]
  | 4 => [(34, 300), (47, 301), (12, 400), (23, 401), (44, 402), (50, 403), (51, 404), (54, 405), (27, 406), (31, 407)]
  | 5 => [(76, 300), (38, 500), (41, 501), (24, 502), (28, 503), (32, 504), (35, 505), (9, 506), (15, 507), (18, 508), (21, 509)]
  | 6 => [(53, 300), (49, 400), (67, 401), (30, 402), (22, 600), (9, 601), (15, 602), (18, 603), (26, 604), (43, 605)]
  | 7 => [(35, 300), (29, 400), (57, 401), (25, 700), (21, 701), (9, 702), (15, 703), (18, 704)]
  | 8 => [(47, 300), (43, 400), (33, 401), (20, 402), (7, 800), (13, 801), (17, 802)]
  | 9 => [(21, 300), (43, 501), (15, 400), (39, 401), (53, 402), (66, 403), (9, 900), (52, 901)]
  | 10 => [(7, 1000), (13, 1001), (16, 1002), (20, 1003), (23, 1004), (26, 1005), (29, 1006), (32, 1007), (78, 1008), (82, 1009), (240, 1010), (35, 1011), (39, 1012), (42, 1013), (111, 1014), (45, 1015), (48, 1016), (51, 1017), (54, 1018), (57, 1019), (161, 1020), (60, 1021), (63, 1022), (66, 1023), (69, 1024), (72, 1025), (75, 1026)]
  | _ => []
def qp_iR : Nat → List (Nat × Nat)
  | 0 => [(1, 5), (11, 12), (26, 32), (35, 54), (42, 72), (51, 82), (58, 92), (65, 102), (78, 120), (106, 130), (110, 140), (215, 150), (82, 170), (98, 180), (113, 190), (309, 210), (86, 220), (90, 230), (94, 240), (102, 270), (116, 290), (120, 300), (124, 200), (127, 320), (131, 360), (139, 450), (145, 480), (152, 520), (156, 530), (159, 600), (162, 460), (319, 470), (187, 610), (181, 630), (184, 640), (322, 650), (325, 660), (165, 561), (169, 700), (176, 710), (193, 730), (199, 740), (202, 810), (205, 790), (212, 840), (218, 860), (221, 551), (226, 900), (229, 571), (231, 930), (234, 970), (238, 1030), (241, 1050), (244, 1060), (340, 1070), (343, 1080), (346, 1093), (250, 1110), (315, 1121), (254, 1140), (257, 1160), (260, 1180), (263, 1210), (266, 1240), (270, 1280), (274, 1300), (282, 1330), (285, 1340), (295, 1390), (334, 1400), (337, 1410), (305, 1450)]
  | 1 => [(1, 5), (13, 21), (26, 130), (30, 200), (37, 210), (34, 190), (41, 290), (45, 6), (51, 220)]
  | 2 => [(3, 5), (11, 44), (29, 370), (32, 380), (35, 200), (41, 220), (45, 390), (53, 400), (66, 210), (49, 410), (59, 420), (62, 430)]
  | 3 => [(3, 5), (25, 370), (28, 460), (32, 470), (35, 430), (39, 561)]
  | 4 => [(3, 5), (11, 44), (20, 62), (38, 491), (57, 540), (61, 621), (83, 671), (74, 610), (76, 551), (80, 650), (87, 750), (65, 761), (90, 790), (94, 480), (97, 740), (68, 530), (71, 640), (101, 730)]
  | 5 => [(3, 5), (44, 551), (50, 460), (56, 561), (60, 571), (64, 580), (68, 470), (71, 591), (79, 630)]
  | 6 => [(3, 5), (35, 980), (84, 991), (39, 1010), (58, 671), (63, 530), (71, 640), (77, 630), (46, 1020), (80, 761)]
  | 7 => [(3, 5), (40, 1100), (54, 530), (61, 640), (67, 551), (44, 501), (50, 1090), (71, 21)]
  | 8 => [(1, 5), (25, 1220), (29, 530), (37, 640), (52, 761)]
  | 9 => [(3, 5), (31, 1250), (56, 551), (62, 501), (69, 540), (35, 1260), (27, 1271), (48, 1310)]
  | 10 => [(1, 5), (93, 1481), (87, 1491), (97, 1500), (101, 1520), (105, 1530), (108, 1581), (136, 1610), (130, 1620), (119, 1630), (114, 1640), (123, 1650), (133, 1660), (127, 1671), (139, 1691), (184, 1710), (189, 1720), (178, 1730), (171, 1740), (164, 1751), (167, 1761), (175, 1770), (143, 1781), (181, 1790), (192, 1811), (196, 1820), (199, 1840), (158, 1851), (154, 1861), (151, 1871), (147, 1881), (202, 1900), (209, 1941), (215, 2000), (212, 2010), (218, 2050), (230, 2070), (233, 2080), (237, 2090), (227, 2100), (224, 2111), (244, 2150), (248, 2181), (251, 2190), (261, 2210), (257, 2220), (277, 2250), (281, 2260), (296, 2310), (284, 2320), (288, 2330), (291, 2341)]
  | 11 => [(7, 501), (13, 551), (17, 621), (26, 681), (20, 771), (23, 781), (32, 1001)]
  | 14 => [(9, 2), (13, 110), (18, 160), (23, 250), (27, 260), (32, 280), (37, 310), (41, 330), (45, 340), (49, 350), (53, 440), (57, 510), (61, 690), (65, 720), (69, 800), (73, 820), (77, 830), (81, 850), (85, 870), (89, 880), (93, 890), (97, 910), (101, 920), (105, 940), (109, 950), (113, 960), (118, 1040), (122, 1130), (126, 1150), (130, 1170), (134, 1190), (138, 1200), (142, 1230), (146, 1290), (150, 1320), (154, 1350), (159, 1360), (164, 1370), (168, 1380), (172, 1420), (176, 1430), (180, 1440), (12, 1462), (17, 1470), (22, 1510), (26, 1520), (31, 1540), (36, 1550), (40, 1560), (44, 1570), (48, 1590), (52, 1600), (56, 1680), (60, 1700), (64, 1800), (68, 1830), (72, 1890), (76, 1910), (80, 1920), (84, 1930), (88, 1950), (92, 1960), (96, 1970), (100, 1980), (104, 1990), (108, 2020), (112, 2030), (117, 2040), (121, 2060), (125, 2120), (129, 2130), (133, 2140), (137, 2160), (141, 2170), (145, 2200), (149, 2230), (153, 2240), (158, 2270), (163, 2280), (167, 2290), (171, 2300), (175, 2350), (179, 2360), (183, 2370)]
  | _ => []
def qp_nR : Nat → List (Nat × Nat)
  | 0 => [(7, 1), (24, 2), (33, 4), (40, 6), (49, 7), (56, 8), (63, 9)]
  | 2 => [(9, 3)]
  | 4 => [(9, 3), (18, 5)]
  | 14 => [(7, 0), (10, 10)]
  | _ => []
def qp_kR : Nat → List (Nat × Int32)
  | 0 => [(277, (2147483647 : Int32))]
  | 10 => [(243, (1000000 : Int32)), (247, (-1000000 : Int32))]
  | 12 => [(265, (1431655765 : Int32)), (266, (858993459 : Int32)), (267, (252645135 : Int32))]
  | _ => []
def qp_lR : Nat → List (Nat × Int64)
  | 0 => [(278, (48271 : Int64)), (280, (2147483647 : Int64)), (301, (17 : Int64)), (303, (31 : Int64))]
  | 1 => [(54, (31 : Int64))]
  | 10 => [(85, (5 : Int64)), (91, (3 : Int64)), (117, (57 : Int64)), (187, (6 : Int64)), (205, (20 : Int64)), (207, (2 : Int64)), (222, (9 : Int64)), (255, (12 : Int64)), (271, (2147483646 : Int64)), (273, (48271 : Int64)), (275, (2147483647 : Int64)), (265, (8 : Int64)), (267, (64 : Int64)), (269, (21 : Int64)), (294, (11 : Int64)), (299, (17 : Int64)), (301, (31 : Int64))]
  | _ => []
def qp_gR : Nat → List (Nat × Nat)
  | 2 => [(70, 1)]
  | _ => []
/-- the methods: name, bytes, locals, what comes back, the class whose pool it reads, how many arguments -/
def qp_ms0 : List (MethodName × ByteArray × Nat × Option FieldType × Nat × Nat) := [
  (⟨"QueuePlaces", "<init>", "()V"⟩, prog_1_method_1_code, 1, none, 0, 0),
  (⟨"QueuePlaces$Shelf", "<init>", "(II)V"⟩, prog_11_method_1_code, 4, none, 1, 2),
  (⟨"java/lang/Math", "max", "(II)I"⟩, prog_15_method_65_code, 2, some .int, 13, 2),
  (⟨"QueuePlaces$Reader", "<init>", "(LQueuePlaces$Shelf;)V"⟩, prog_8_method_1_code, 2, none, 2, 1),
  (⟨"QueuePlaces$Crowd", "<init>", "()V"⟩, prog_3_method_1_code, 1, none, 3, 0),
  (⟨"QueuePlaces$Line", "<init>", "()V"⟩, prog_4_method_1_code, 1, none, 4, 0),
  (⟨"QueuePlaces$Serving", "<init>", "(LQueuePlaces$Crowd;)V"⟩, prog_10_method_1_code, 2, none, 5, 1),
  (⟨"QueuePlaces$Search", "<init>", "(LQueuePlaces$Line;)V"⟩, prog_9_method_1_code, 2, none, 6, 1),
  (⟨"QueuePlaces$Orders", "<init>", "(LQueuePlaces$Line;)V"⟩, prog_7_method_1_code, 2, none, 7, 1),
  (⟨"QueuePlaces$Match", "<init>", "(LQueuePlaces$Line;)V"⟩, prog_5_method_1_code, 2, none, 8, 1),
  (⟨"QueuePlaces$Chances", "<init>", "(LQueuePlaces$Line;)V"⟩, prog_2_method_1_code, 2, none, 9, 1),
  (⟨"QueuePlaces", "row", "(II)I"⟩, prog_1_method_2_code, 3, some .int, 0, 2),
  (⟨"QueuePlaces", "anew", "(LQueuePlaces$Shelf;III)I"⟩, prog_1_method_46_code, 5, some .int, 0, 4),
  (⟨"QueuePlaces$Shelf", "isNumber", "(I)Z"⟩, prog_11_method_2_code, 2, some .boolean, 1, 1),
  (⟨"QueuePlaces", "found", "(I)I"⟩, prog_1_method_43_code, 2, some .int, 0, 1),
  (⟨"QueuePlaces$Shelf", "fresh", "(III)V"⟩, prog_11_method_9_code, 5, none, 1, 3),
  (⟨"QueuePlaces", "lay", "(III)I"⟩, prog_1_method_3_code, 6, some .int, 0, 3),
  (⟨"QueuePlaces", "refusalOfPlace", "(LQueuePlaces$Shelf;II)I"⟩, prog_1_method_45_code, 5, some .int, 0, 3),
  (⟨"QueuePlaces", "refusalOf", "(LQueuePlaces$Shelf;I)I"⟩, prog_1_method_44_code, 3, some .int, 0, 2),
  (⟨"QueuePlaces$Shelf", "has", "(I)Z"⟩, prog_11_method_4_code, 2, some .boolean, 1, 1),
  (⟨"QueuePlaces$Shelf", "sizeOf", "(I)I"⟩, prog_11_method_3_code, 2, some .int, 1, 1),
  (⟨"QueuePlaces$Shelf", "hasPlace", "(II)Z"⟩, prog_11_method_5_code, 3, some .boolean, 1, 2),
  (⟨"QueuePlaces$Shelf", "get", "(II)I"⟩, prog_11_method_7_code, 3, some .int, 1, 2),
  (⟨"QueuePlaces$Shelf", "set", "(III)V"⟩, prog_11_method_8_code, 4, none, 1, 3),
  (⟨"QueuePlaces", "tell", "(I)I"⟩, prog_1_method_47_code, 2, some .int, 0, 1),
  (⟨"QueuePlaces", "at", "(II)I"⟩, prog_1_method_4_code, 4, some .int, 0, 2),
  (⟨"QueuePlaces", "tear", "(I)I"⟩, prog_1_method_5_code, 3, some .int, 0, 1),
  (⟨"QueuePlaces$Shelf", "drop", "(I)V"⟩, prog_11_method_10_code, 2, none, 1, 1),
  (⟨"QueuePlaces", "copy", "(IIIII)I"⟩, prog_1_method_6_code, 6, some .int, 0, 5),
  (⟨"QueuePlaces$Shelf", "hasSpan", "(III)Z"⟩, prog_11_method_6_code, 4, some .boolean, 1, 3),
  (⟨"QueuePlaces$Shelf", "bring", "(IIIII)V"⟩, prog_11_method_11_code, 6, none, 1, 5),
  (⟨"QueuePlaces", "mean", "(I)I"⟩, prog_1_method_7_code, 4, some .int, 0, 1),
  (⟨"QueuePlaces$Shelf", "sum", "(I)J"⟩, prog_11_method_12_code, 5, some .long, 1, 1),
  (⟨"QueuePlaces", "text", "(II)I"⟩, prog_1_method_8_code, 3, some .int, 0, 2),
  (⟨"QueuePlaces", "put", "(III)I"⟩, prog_1_method_9_code, 6, some .int, 0, 3),
  (⟨"QueuePlaces", "fault", "(I)I"⟩, prog_1_method_10_code, 3, some .int, 0, 1),
  (⟨"QueuePlaces$Reader", "read", "(I)I"⟩, prog_8_method_2_code, 2, some .int, 2, 1),
  (⟨"QueuePlaces$Crowd", "clear", "()V"⟩, prog_3_method_3_code, 1, none, 3, 0),
  (⟨"QueuePlaces$Reader", "skipBlanks", "()V"⟩, prog_8_method_3_code, 1, none, 2, 0),
  (⟨"QueuePlaces$Reader", "readLoaves", "()Z"⟩, prog_8_method_4_code, 3, some .boolean, 2, 0),
  (⟨"QueuePlaces$Reader", "figureAt", "(I)I"⟩, prog_8_method_6_code, 4, some .int, 2, 1),
  (⟨"QueuePlaces$Reader", "readPeople", "()I"⟩, prog_8_method_5_code, 4, some .int, 2, 0),
  (⟨"QueuePlaces$Reader", "kindAt", "(I)I"⟩, prog_8_method_7_code, 3, some .int, 2, 1),
  (⟨"QueuePlaces$Crowd", "add", "(II)V"⟩, prog_3_method_4_code, 3, none, 3, 2),
  (⟨"QueuePlaces", "line", "(I)I"⟩, prog_1_method_11_code, 4, some .int, 0, 1),
  (⟨"QueuePlaces$Crowd", "take", "(LQueuePlaces$Crowd;)V"⟩, prog_3_method_5_code, 3, none, 3, 1),
  (⟨"QueuePlaces$Crowd", "kindOf", "(I)I"⟩, prog_3_method_6_code, 2, some .int, 3, 1),
  (⟨"QueuePlaces$Crowd", "patienceOf", "(I)I"⟩, prog_3_method_7_code, 2, some .int, 3, 1),
  (⟨"QueuePlaces$Line", "restart", "()V"⟩, prog_4_method_2_code, 1, none, 4, 0),
  (⟨"QueuePlaces$Order", "first", "(I)I"⟩, prog_6_method_2_code, 3, some .int, 11, 1),
  (⟨"QueuePlaces$Order", "with", "(III)I"⟩, prog_6_method_3_code, 3, some .int, 11, 3),
  (⟨"QueuePlaces", "one", "(II)I"⟩, prog_1_method_12_code, 3, some .int, 0, 2),
  (⟨"QueuePlaces$Crowd", "has", "(I)Z"⟩, prog_3_method_2_code, 2, some .boolean, 3, 1),
  (⟨"QueuePlaces$Line", "serve", "(I)V"⟩, prog_4_method_3_code, 2, none, 4, 1),
  (⟨"QueuePlaces$Serving", "serve", "(III)V"⟩, prog_10_method_2_code, 8, none, 5, 3),
  (⟨"QueuePlaces$Order", "whoAt", "(II)I"⟩, prog_6_method_4_code, 2, some .int, 11, 2),
  (⟨"QueuePlaces$Crowd", "isKindOf", "(II)Z"⟩, prog_3_method_8_code, 2, some .boolean, 3, 2),
  (⟨"QueuePlaces$Crowd", "wantOf", "(IZ)I"⟩, prog_3_method_10_code, 2, some .int, 3, 2),
  (⟨"QueuePlaces$Serving", "serveOne", "(II)V"⟩, prog_10_method_3_code, 5, none, 5, 2),
  (⟨"java/lang/Math", "min", "(II)I"⟩, prog_15_method_69_code, 2, some .int, 13, 2)]
def qp_ms1 : List (MethodName × ByteArray × Nat × Option FieldType × Nat × Nat) := [
  (⟨"QueuePlaces", "trait", "(II)I"⟩, prog_1_method_50_code, 3, some .int, 0, 2),
  (⟨"QueuePlaces$Line", "placeOf", "(I)I"⟩, prog_4_method_4_code, 2, some .int, 4, 1),
  (⟨"QueuePlaces$Order", "placeOf", "(III)I"⟩, prog_6_method_5_code, 4, some .int, 11, 3),
  (⟨"QueuePlaces$Serving", "wantOf", "(I)I"⟩, prog_10_method_4_code, 2, some .int, 5, 1),
  (⟨"QueuePlaces$Serving", "gainOf", "(I)I"⟩, prog_10_method_5_code, 2, some .int, 5, 1),
  (⟨"QueuePlaces$Serving", "turnOf", "(I)I"⟩, prog_10_method_6_code, 2, some .int, 5, 1),
  (⟨"QueuePlaces$Line", "metBy", "(I)I"⟩, prog_4_method_7_code, 4, some .int, 4, 1),
  (⟨"QueuePlaces$Order", "haveMet", "(IIII)Z"⟩, prog_6_method_9_code, 4, some .boolean, 11, 4),
  (⟨"java/lang/Math", "abs", "(I)I"⟩, prog_15_method_59_code, 1, some .int, 13, 1),
  (⟨"QueuePlaces", "mark", "(II)I"⟩, prog_1_method_13_code, 3, some .int, 0, 2),
  (⟨"QueuePlaces$Line", "passedBy", "(I)I"⟩, prog_4_method_6_code, 4, some .int, 4, 1),
  (⟨"QueuePlaces$Serving", "leftFor", "(I)I"⟩, prog_10_method_7_code, 2, some .int, 5, 1),
  (⟨"QueuePlaces", "ticket", "(II)I"⟩, prog_1_method_14_code, 4, some .int, 0, 2),
  (⟨"QueuePlaces$Line", "canSell", "(I)Z"⟩, prog_4_method_11_code, 2, some .boolean, 4, 1),
  (⟨"QueuePlaces$Line", "act", "(II)V"⟩, prog_4_method_12_code, 3, none, 4, 2),
  (⟨"QueuePlaces$Line", "sell", "(I)V"⟩, prog_4_method_13_code, 2, none, 4, 1),
  (⟨"QueuePlaces$Order", "by", "(III)I"⟩, prog_6_method_6_code, 7, some .int, 11, 3),
  (⟨"QueuePlaces$Order", "ahead", "(II)I"⟩, prog_6_method_7_code, 2, some .int, 11, 2),
  (⟨"QueuePlaces$Order", "behind", "(II)I"⟩, prog_6_method_8_code, 2, some .int, 11, 2),
  (⟨"QueuePlaces$Line", "without", "(IZ)I"⟩, prog_4_method_14_code, 9, some .int, 4, 2),
  (⟨"QueuePlaces", "back", "(I)I"⟩, prog_1_method_15_code, 3, some .int, 0, 1),
  (⟨"QueuePlaces$Line", "hasTicket", "(I)Z"⟩, prog_4_method_8_code, 2, some .boolean, 4, 1),
  (⟨"QueuePlaces", "loaves", "(I)I"⟩, prog_1_method_16_code, 3, some .int, 0, 1),
  (⟨"QueuePlaces", "undo", "(I)I"⟩, prog_1_method_17_code, 3, some .int, 0, 1),
  (⟨"QueuePlaces$Line", "redo", "(I)V"⟩, prog_4_method_15_code, 3, none, 4, 1),
  (⟨"QueuePlaces", "keep", "(I)I"⟩, prog_1_method_18_code, 3, some .int, 0, 1),
  (⟨"QueuePlaces$Line", "deed", "(I)I"⟩, prog_4_method_10_code, 2, some .int, 4, 1),
  (⟨"QueuePlaces", "on", "(I)I"⟩, prog_1_method_19_code, 5, some .int, 0, 1),
  (⟨"QueuePlaces", "who", "(I)I"⟩, prog_1_method_20_code, 2, some .int, 0, 1),
  (⟨"QueuePlaces", "sold", "(II)I"⟩, prog_1_method_21_code, 3, some .int, 0, 2),
  (⟨"QueuePlaces$Line", "saleOf", "(I)I"⟩, prog_4_method_9_code, 2, some .int, 4, 1),
  (⟨"QueuePlaces", "wants", "(II)I"⟩, prog_1_method_22_code, 3, some .int, 0, 2),
  (⟨"QueuePlaces", "gets", "(II)I"⟩, prog_1_method_23_code, 3, some .int, 0, 2),
  (⟨"QueuePlaces$Line", "gainAt", "(II)I"⟩, prog_4_method_5_code, 3, some .int, 4, 2),
  (⟨"QueuePlaces", "best", "(I)I"⟩, prog_1_method_24_code, 6, some .int, 0, 1),
  (⟨"QueuePlaces", "falls", "(I)I"⟩, prog_1_method_25_code, 2, some .int, 0, 1),
  (⟨"QueuePlaces", "wish", "(IIII)I"⟩, prog_1_method_26_code, 8, some .int, 0, 4),
  (⟨"QueuePlaces$Search", "fewest", "(III)I"⟩, prog_9_method_2_code, 8, some .int, 6, 3),
  (⟨"QueuePlaces$Search", "reach", "(II)V"⟩, prog_9_method_6_code, 4, none, 6, 2),
  (⟨"QueuePlaces$Order", "rank", "(II)I"⟩, prog_6_method_10_code, 6, some .int, 11, 2),
  (⟨"java/lang/Integer", "bitCount", "(I)I"⟩, prog_14_method_49_code, 1, some .int, 12, 1),
  (⟨"QueuePlaces$Search", "fits", "(IIII)Z"⟩, prog_9_method_4_code, 5, some .boolean, 6, 4),
  (⟨"QueuePlaces$Search", "goOn", "(II)V"⟩, prog_9_method_5_code, 6, none, 6, 2),
  (⟨"QueuePlaces$Search", "step", "(II)I"⟩, prog_9_method_3_code, 3, some .int, 6, 2),
  (⟨"QueuePlaces", "lines", "(I)I"⟩, prog_1_method_27_code, 3, some .int, 0, 1),
  (⟨"QueuePlaces", "refusalOfPairs", "(I)I"⟩, prog_1_method_52_code, 6, some .int, 0, 1),
  (⟨"QueuePlaces", "tallyOrders", "(I)V"⟩, prog_1_method_53_code, 4, none, 0, 1),
  (⟨"QueuePlaces$Orders", "forget", "()V"⟩, prog_7_method_2_code, 2, none, 7, 0),
  (⟨"QueuePlaces$Orders", "learn", "(II)V"⟩, prog_7_method_3_code, 3, none, 7, 2),
  (⟨"QueuePlaces$Orders", "extend", "(III)V"⟩, prog_7_method_4_code, 5, none, 7, 3),
  (⟨"QueuePlaces$Orders", "tallyOne", "(I)V"⟩, prog_7_method_5_code, 5, none, 7, 1),
  (⟨"QueuePlaces", "tellRatio", "(JJ)I"⟩, prog_1_method_48_code, 7, some .int, 0, 2),
  (⟨"QueuePlaces", "greatestDivisor", "(JJ)J"⟩, prog_1_method_49_code, 11, some .long, 0, 2),
  (⟨"QueuePlaces", "can", "(II)I"⟩, prog_1_method_28_code, 4, some .int, 0, 2),
  (⟨"QueuePlaces$Orders", "whoCan", "(I)I"⟩, prog_7_method_6_code, 2, some .int, 7, 1),
  (⟨"QueuePlaces", "next", "(I)I"⟩, prog_1_method_29_code, 5, some .int, 0, 1),
  (⟨"QueuePlaces$Orders", "greatestPart", "(I)I"⟩, prog_7_method_7_code, 4, some .int, 7, 1),
  (⟨"QueuePlaces", "sets", "(I)I"⟩, prog_1_method_30_code, 5, some .int, 0, 1),
  (⟨"QueuePlaces$Serving", "wantOfAll", "(I)I"⟩, prog_10_method_10_code, 4, some .int, 5, 1),
  (⟨"QueuePlaces", "sure", "(I)I"⟩, prog_1_method_31_code, 7, some .int, 0, 1)]
def qp_ms2 : List (MethodName × ByteArray × Nat × Option FieldType × Nat × Nat) := [
  (⟨"QueuePlaces", "duel", "(III)I"⟩, prog_1_method_32_code, 4, some .int, 0, 3),
  (⟨"QueuePlaces$Match", "outcome", "(III)I"⟩, prog_5_method_2_code, 4, some .int, 8, 3),
  (⟨"QueuePlaces$Match", "play", "(II)I"⟩, prog_5_method_3_code, 8, some .int, 8, 2),
  (⟨"QueuePlaces", "odds", "(II)I"⟩, prog_1_method_33_code, 3, some .int, 0, 2),
  (⟨"QueuePlaces$Chances", "ofContent", "(II)J"⟩, prog_2_method_3_code, 6, some .long, 9, 2),
  (⟨"QueuePlaces$Chances", "serveSet", "(I)V"⟩, prog_2_method_5_code, 5, none, 9, 1),
  (⟨"QueuePlaces$Chances", "weight", "(I)J"⟩, prog_2_method_6_code, 2, some .long, 9, 1),
  (⟨"QueuePlaces$Chances", "power", "(II)J"⟩, prog_2_method_7_code, 5, some .long, 9, 2),
  (⟨"QueuePlaces$Chances", "whole", "()J"⟩, prog_2_method_2_code, 1, some .long, 9, 0),
  (⟨"QueuePlaces", "mid", "(I)I"⟩, prog_1_method_34_code, 2, some .int, 0, 1),
  (⟨"QueuePlaces$Chances", "ofLeft", "(I)J"⟩, prog_2_method_4_code, 5, some .long, 9, 1),
  (⟨"QueuePlaces$Serving", "leftInTheEnd", "()I"⟩, prog_10_method_8_code, 1, some .int, 5, 0),
  (⟨"QueuePlaces", "lots", "(II)I"⟩, prog_1_method_35_code, 6, some .int, 0, 2),
  (⟨"QueuePlaces$Line", "actByLot", "(I)V"⟩, prog_4_method_16_code, 4, none, 4, 1),
  (⟨"QueuePlaces$Serving", "gainOfAll", "()I"⟩, prog_10_method_9_code, 1, some .int, 5, 0),
  (⟨"QueuePlaces", "asked", "()I"⟩, prog_1_method_36_code, 1, some .int, 0, 0),
  (⟨"QueuePlaces", "upper", "()J"⟩, prog_1_method_37_code, 1, some .long, 0, 0),
  (⟨"QueuePlaces", "lower", "()J"⟩, prog_1_method_38_code, 1, some .long, 0, 0),
  (⟨"QueuePlaces", "count", "(I)I"⟩, prog_1_method_39_code, 2, some .int, 0, 1),
  (⟨"QueuePlaces", "amount", "(I)I"⟩, prog_1_method_51_code, 2, some .int, 0, 1),
  (⟨"QueuePlaces$Crowd", "howMany", "(I)I"⟩, prog_3_method_9_code, 4, some .int, 3, 1),
  (⟨"QueuePlaces$Shelf", "there", "()I"⟩, prog_11_method_13_code, 3, some .int, 1, 0),
  (⟨"QueuePlaces", "finding", "()I"⟩, prog_1_method_40_code, 1, some .int, 0, 0),
  (⟨"QueuePlaces", "findings", "(I)I"⟩, prog_1_method_41_code, 2, some .int, 0, 1),
  (⟨"QueuePlaces", "digest", "()J"⟩, prog_1_method_42_code, 5, some .long, 0, 0),
  (⟨"QueuePlaces$Shelf", "digested", "(J)J"⟩, prog_11_method_14_code, 7, some .long, 1, 1),
  (⟨"QueuePlacesModel", "<init>", "()V"⟩, prog_13_method_1_code, 2, none, 10, 0),
  (⟨"QueuePlacesModel", "row", "(II)I"⟩, prog_13_method_8_code, 4, some .int, 10, 2),
  (⟨"QueuePlacesModel", "isRow", "(I)Z"⟩, prog_13_method_6_code, 1, some .boolean, 10, 1),
  (⟨"QueuePlacesModel", "in", "(JJJ)Z"⟩, prog_13_method_3_code, 6, some .boolean, 10, 3),
  (⟨"QueuePlacesModel", "finds", "(I)I"⟩, prog_13_method_4_code, 2, some .int, 10, 1),
  (⟨"QueuePlacesModel", "lay", "(III)I"⟩, prog_13_method_9_code, 5, some .int, 10, 3),
  (⟨"QueuePlacesModel", "at", "(II)I"⟩, prog_13_method_10_code, 3, some .int, 10, 2),
  (⟨"QueuePlacesModel", "asks", "(I)I"⟩, prog_13_method_5_code, 2, some .int, 10, 1),
  (⟨"QueuePlacesModel", "tear", "(I)I"⟩, prog_13_method_11_code, 2, some .int, 10, 1),
  (⟨"QueuePlacesModel", "copy", "(IIIII)I"⟩, prog_13_method_12_code, 7, some .int, 10, 5),
  (⟨"QueuePlacesModel", "mean", "(I)I"⟩, prog_13_method_13_code, 5, some .int, 10, 1),
  (⟨"QueuePlacesModel", "text", "(II)I"⟩, prog_13_method_14_code, 4, some .int, 10, 2),
  (⟨"QueuePlacesModel", "isText", "(I)Z"⟩, prog_13_method_7_code, 1, some .boolean, 10, 1),
  (⟨"QueuePlacesModel", "put", "(III)I"⟩, prog_13_method_15_code, 6, some .int, 10, 3),
  (⟨"QueuePlacesModel", "fault", "(I)I"⟩, prog_13_method_23_code, 2, some .int, 10, 1),
  (⟨"QueuePlacesModel", "faultOf", "(I)I"⟩, prog_13_method_22_code, 3, some .int, 10, 1),
  (⟨"QueuePlacesModel", "takesFirst", "(I)Z"⟩, prog_13_method_19_code, 4, some .boolean, 10, 1),
  (⟨"QueuePlacesModel", "skip", "(I)V"⟩, prog_13_method_17_code, 2, none, 10, 1),
  (⟨"QueuePlacesModel", "here", "(I)I"⟩, prog_13_method_16_code, 2, some .int, 10, 1),
  (⟨"QueuePlacesModel", "takes", "(III)Z"⟩, prog_13_method_18_code, 5, some .boolean, 10, 3),
  (⟨"QueuePlacesModel", "takesOne", "(I)Z"⟩, prog_13_method_21_code, 4, some .boolean, 10, 1),
  (⟨"QueuePlacesModel", "kindBy", "(I)I"⟩, prog_13_method_20_code, 1, some .int, 10, 1),
  (⟨"QueuePlacesModel", "line", "(I)I"⟩, prog_13_method_24_code, 3, some .int, 10, 1),
  (⟨"QueuePlacesModel", "begin", "([I)V"⟩, prog_13_method_25_code, 2, none, 10, 1),
  (⟨"QueuePlacesModel", "one", "(II)I"⟩, prog_13_method_44_code, 3, some .int, 10, 2),
  (⟨"QueuePlacesModel", "isOne", "(I)Z"⟩, prog_13_method_35_code, 2, some .boolean, 10, 1),
  (⟨"QueuePlacesModel", "toldOf", "(II)I"⟩, prog_13_method_43_code, 3, some .int, 10, 2),
  (⟨"QueuePlacesModel", "serveNow", "()V"⟩, prog_13_method_40_code, 1, none, 10, 0),
  (⟨"QueuePlacesModel", "serve", "([III)V"⟩, prog_13_method_39_code, 8, none, 10, 3),
  (⟨"QueuePlacesModel", "isSoldier", "(I)Z"⟩, prog_13_method_37_code, 1, some .boolean, 10, 1),
  (⟨"QueuePlacesModel", "wantsAs", "(IZ)I"⟩, prog_13_method_38_code, 2, some .int, 10, 2),
  (⟨"QueuePlacesModel", "placeOf", "(I)I"⟩, prog_13_method_41_code, 2, some .int, 10, 1),
  (⟨"QueuePlacesModel", "placeIn", "([IIII)I"⟩, prog_13_method_28_code, 5, some .int, 10, 4),
  (⟨"QueuePlacesModel", "metWith", "(I)I"⟩, prog_13_method_42_code, 4, some .int, 10, 1)]
def qp_ms3 : List (MethodName × ByteArray × Nat × Option FieldType × Nat × Nat) := [
  (⟨"QueuePlacesModel", "mark", "(II)I"⟩, prog_13_method_47_code, 3, some .int, 10, 2),
  (⟨"QueuePlacesModel", "isOf", "(II)Z"⟩, prog_13_method_45_code, 2, some .boolean, 10, 2),
  (⟨"QueuePlacesModel", "othersAhead", "(I)I"⟩, prog_13_method_46_code, 4, some .int, 10, 1),
  (⟨"QueuePlacesModel", "ticket", "(II)I"⟩, prog_13_method_48_code, 4, some .int, 10, 2),
  (⟨"QueuePlacesModel", "does", "(I)I"⟩, prog_13_method_34_code, 2, some .int, 10, 1),
  (⟨"QueuePlacesModel", "goDeed", "([II)I"⟩, prog_13_method_33_code, 2, some .int, 10, 2),
  (⟨"QueuePlacesModel", "goBack", "([II)I"⟩, prog_13_method_32_code, 7, some .int, 10, 2),
  (⟨"QueuePlacesModel", "layStands", "([I)V"⟩, prog_13_method_30_code, 2, none, 10, 1),
  (⟨"QueuePlacesModel", "goTo", "([IIIII)V"⟩, prog_13_method_29_code, 6, none, 10, 5),
  (⟨"QueuePlacesModel", "back", "(I)I"⟩, prog_13_method_49_code, 2, some .int, 10, 1),
  (⟨"QueuePlacesModel", "isTicket", "(I)Z"⟩, prog_13_method_36_code, 2, some .boolean, 10, 1),
  (⟨"QueuePlacesModel", "loaves", "(I)I"⟩, prog_13_method_50_code, 4, some .int, 10, 1),
  (⟨"QueuePlacesModel", "undo", "(I)I"⟩, prog_13_method_51_code, 5, some .int, 10, 1),
  (⟨"QueuePlacesModel", "keep", "(I)I"⟩, prog_13_method_53_code, 3, some .int, 10, 1),
  (⟨"QueuePlacesModel", "isShelf", "(I)Z"⟩, prog_13_method_52_code, 1, some .boolean, 10, 1),
  (⟨"QueuePlacesModel", "on", "(I)I"⟩, prog_13_method_54_code, 3, some .int, 10, 1),
  (⟨"QueuePlacesModel", "who", "(I)I"⟩, prog_13_method_55_code, 2, some .int, 10, 1),
  (⟨"QueuePlacesModel", "sold", "(II)I"⟩, prog_13_method_56_code, 3, some .int, 10, 2),
  (⟨"QueuePlacesModel", "wants", "(II)I"⟩, prog_13_method_57_code, 3, some .int, 10, 2),
  (⟨"QueuePlacesModel", "gets", "(II)I"⟩, prog_13_method_59_code, 3, some .int, 10, 2),
  (⟨"QueuePlacesModel", "getsAt", "(II)I"⟩, prog_13_method_58_code, 3, some .int, 10, 2),
  (⟨"QueuePlacesModel", "layHand", "()V"⟩, prog_13_method_31_code, 2, none, 10, 0),
  (⟨"QueuePlacesModel", "best", "(I)I"⟩, prog_13_method_60_code, 6, some .int, 10, 1),
  (⟨"QueuePlacesModel", "falls", "(I)I"⟩, prog_13_method_61_code, 2, some .int, 10, 1),
  (⟨"QueuePlacesModel", "wish", "(IIII)I"⟩, prog_13_method_63_code, 9, some .int, 10, 4),
  (⟨"QueuePlacesModel", "goes", "(IIIII)Z"⟩, prog_13_method_62_code, 12, some .boolean, 10, 5),
  (⟨"QueuePlacesModel", "lines", "(I)I"⟩, prog_13_method_68_code, 5, some .int, 10, 1),
  (⟨"QueuePlacesModel", "refusesPairs", "(I)I"⟩, prog_13_method_64_code, 3, some .int, 10, 1),
  (⟨"QueuePlacesModel", "manyOrders", "()I"⟩, prog_13_method_66_code, 3, some .int, 10, 0),
  (⟨"QueuePlacesModel", "fits", "(II)Z"⟩, prog_13_method_67_code, 5, some .boolean, 10, 2),
  (⟨"QueuePlacesModel", "layOrder", "(I)V"⟩, prog_13_method_65_code, 9, none, 10, 1),
  (⟨"QueuePlacesModel", "has", "(II)Z"⟩, prog_13_method_27_code, 2, some .boolean, 10, 2),
  (⟨"QueuePlacesModel", "can", "(II)I"⟩, prog_13_method_69_code, 6, some .int, 10, 2),
  (⟨"QueuePlacesModel", "next", "(I)I"⟩, prog_13_method_70_code, 9, some .int, 10, 1),
  (⟨"QueuePlacesModel", "sets", "(I)I"⟩, prog_13_method_72_code, 5, some .int, 10, 1),
  (⟨"QueuePlacesModel", "wantedBy", "(I)I"⟩, prog_13_method_71_code, 5, some .int, 10, 1),
  (⟨"QueuePlacesModel", "sure", "(I)I"⟩, prog_13_method_73_code, 7, some .int, 10, 1),
  (⟨"QueuePlacesModel", "duel", "(III)I"⟩, prog_13_method_76_code, 10, some .int, 10, 3),
  (⟨"QueuePlacesModel", "startOf", "(I)I"⟩, prog_13_method_75_code, 1, some .int, 10, 1),
  (⟨"QueuePlacesModel", "goChoices", "(III)I"⟩, prog_13_method_74_code, 5, some .int, 10, 3),
  (⟨"QueuePlacesModel", "odds", "(II)I"⟩, prog_13_method_79_code, 3, some .int, 10, 2),
  (⟨"QueuePlacesModel", "goOdds", "(II)V"⟩, prog_13_method_78_code, 13, none, 10, 2),
  (⟨"QueuePlacesModel", "fraction", "(JJ)V"⟩, prog_13_method_77_code, 11, none, 10, 2),
  (⟨"QueuePlacesModel", "mid", "(I)I"⟩, prog_13_method_80_code, 2, some .int, 10, 1),
  (⟨"QueuePlacesModel", "lots", "(II)I"⟩, prog_13_method_83_code, 7, some .int, 10, 2),
  (⟨"QueuePlacesModel", "deedBy", "(J)I"⟩, prog_13_method_81_code, 8, some .int, 10, 1),
  (⟨"QueuePlacesModel", "gotAll", "()I"⟩, prog_13_method_82_code, 3, some .int, 10, 0),
  (⟨"QueuePlacesModel", "asked", "()I"⟩, prog_13_method_84_code, 1, some .int, 10, 0),
  (⟨"QueuePlacesModel", "upper", "()J"⟩, prog_13_method_85_code, 1, some .long, 10, 0),
  (⟨"QueuePlacesModel", "lower", "()J"⟩, prog_13_method_86_code, 1, some .long, 10, 0),
  (⟨"QueuePlacesModel", "count", "(I)I"⟩, prog_13_method_91_code, 2, some .int, 10, 1),
  (⟨"QueuePlacesModel", "counted", "(I)I"⟩, prog_13_method_90_code, 2, some .int, 10, 1),
  (⟨"QueuePlacesModel", "whoIs", "(Z)I"⟩, prog_13_method_89_code, 5, some .int, 10, 1),
  (⟨"QueuePlacesModel", "manyOf", "(I)I"⟩, prog_13_method_88_code, 4, some .int, 10, 1),
  (⟨"QueuePlacesModel", "manyThere", "([II)I"⟩, prog_13_method_87_code, 4, some .int, 10, 2),
  (⟨"QueuePlacesModel", "finding", "()I"⟩, prog_13_method_92_code, 1, some .int, 10, 0),
  (⟨"QueuePlacesModel", "findings", "(I)I"⟩, prog_13_method_93_code, 2, some .int, 10, 1),
  (⟨"QueuePlacesModel", "digest", "()J"⟩, prog_13_method_94_code, 5, some .long, 10, 0)]
def qp_ms : List (MethodName × ByteArray × Nat × Option FieldType × Nat × Nat) := qp_ms0 ++ (qp_ms1 ++ (qp_ms2 ++ (qp_ms3)))
def qp_m0 : MethodName × ByteArray × Nat × Option FieldType × Nat × Nat := (⟨"", "", ""⟩, ⟨#[]⟩, 0, none, 20, 0)
def qp_m (mi : Nat) : MethodName × ByteArray × Nat × Option FieldType × Nat × Nat := qp_ms.getD mi qp_m0
def qp_y (mi : Nat) : MethodName := (qp_m mi).1
def qp_b (mi : Nat) : ByteArray := (qp_m mi).2.1
def qp_mL (mi : Nat) : Nat := (qp_m mi).2.2.1
def qp_rt (mi : Nat) : Option FieldType := (qp_m mi).2.2.2.1
def qp_o (mi : Nat) : Nat := (qp_m mi).2.2.2.2.1
def qp_na (mi : Nat) : Nat := (qp_m mi).2.2.2.2.2
/-- fetch -/
def qp_ft8 (K : List (List (Nat × Instr × Int32 × Nat))) (pc : Nat) : Option (Instr × Int32 × Nat) := match qp_nth K (pc / 16) with
  | some b => qp_lk b pc
  | none => none
end
section
/-! the code: of each method its instructions by sixteens of bytes: (place, instruction, constant, target or what is named) -/
def qp_k0 : List (List (Nat × Instr × Int32 × Nat)) := [
  [(0, .aload_n 0, 0, 0), (1, .invokespecial 1, 0, 5), (4, .aload_n 0, 0, 0), (5, .new 7, 0, 1), (8, .dup, 0, 0), (9, .bipush 6, 6, 0), (11, .bipush 40, 40, 0), (13, .invokespecial 11, 0, 12)],
  [(16, .putfield 14, 0, 0), (19, .aload_n 0, 0, 0), (20, .new 7, 0, 1), (23, .dup, 0, 0), (24, .iconst 4, 4, 0), (25, .bipush 60, 60, 0), (27, .invokespecial 11, 0, 12), (30, .putfield 18, 0, 1)],
  [(33, .aload_n 0, 0, 0), (34, .new 7, 0, 1), (37, .dup, 0, 0), (38, .iconst 3, 3, 0), (39, .bipush 40, 40, 0), (41, .invokespecial 11, 0, 12), (44, .putfield 21, 0, 2), (47, .aload_n 0, 0, 0)],
  [(48, .new 24, 0, 2), (51, .dup, 0, 0), (52, .aload_n 0, 0, 0), (53, .getfield 18, 0, 1), (56, .invokespecial 26, 0, 32), (59, .putfield 29, 0, 3), (62, .aload_n 0, 0, 0), (63, .new 33, 0, 4)],
  [(66, .dup, 0, 0), (67, .invokespecial 35, 0, 54), (70, .putfield 36, 0, 4), (73, .aload_n 0, 0, 0), (74, .new 40, 0, 6), (77, .dup, 0, 0), (78, .aload_n 0, 0, 0), (79, .getfield 36, 0, 4)],
  [(82, .invokespecial 42, 0, 72), (85, .putfield 45, 0, 5), (88, .aload_n 0, 0, 0), (89, .new 49, 0, 7), (92, .dup, 0, 0), (93, .aload_n 0, 0, 0), (94, .getfield 36, 0, 4)],
  [(97, .invokespecial 51, 0, 82), (100, .putfield 52, 0, 6), (103, .aload_n 0, 0, 0), (104, .new 56, 0, 8), (107, .dup, 0, 0), (108, .aload_n 0, 0, 0), (109, .getfield 36, 0, 4)],
  [(112, .invokespecial 58, 0, 92), (115, .putfield 59, 0, 7), (118, .aload_n 0, 0, 0), (119, .new 63, 0, 9), (122, .dup, 0, 0), (123, .aload_n 0, 0, 0), (124, .getfield 36, 0, 4), (127, .invokespecial 65, 0, 102)],
  [(130, .putfield 66, 0, 8), (133, .aload_n 0, 0, 0), (134, .bipush 6, 6, 0), (136, .newarray .int, 0, 0), (138, .putfield 70, 0, 9), (141, .aload_n 0, 0, 0), (142, .lconst 1, 0, 0), (143, .putfield 74, 0, 13)],
  [(146, .return_, 0, 0)]]
def qp_k1 : List (List (Nat × Instr × Int32 × Nat)) := [
  [(0, .aload_n 0, 0, 0), (1, .invokespecial 1, 0, 5), (4, .aload_n 0, 0, 0), (5, .iload_n 2, 0, 0), (6, .putfield 7, 0, 100), (9, .aload_n 0, 0, 0), (10, .iload_n 1, 0, 0), (11, .iconst 0, 0, 0), (12, .invokestatic 13, 0, 21), (15, .newarray .int, 0, 0)],
  [(17, .putfield 19, 0, 101), (20, .aload_n 0, 0, 0), (21, .iload_n 1, 0, 0), (22, .iload_n 2, 0, 0), (23, .imul, 0, 0), (24, .iconst 0, 0, 0), (25, .invokestatic 13, 0, 21), (28, .newarray .int, 0, 0), (30, .putfield 23, 0, 102)],
  [(33, .iconst 0, 0, 0), (34, .istore_n 3, 0, 0), (35, .iload_n 3, 0, 0), (36, .aload_n 0, 0, 0), (37, .getfield 19, 0, 101), (40, .arraylength, 0, 0), (41, .if_icmp .ge 16, 0, 57), (44, .aload_n 0, 0, 0), (45, .getfield 19, 0, 101)],
  [(48, .iload_n 3, 0, 0), (49, .iconst (-1), (-1), 0), (50, .iastore, 0, 0), (51, .iinc 3 1, 1, 0), (54, .goto (-19), 0, 35), (57, .return_, 0, 0)]]
def qp_k2 : List (List (Nat × Instr × Int32 × Nat)) := [
  [(0, .iload_n 0, 0, 0), (1, .iload_n 1, 0, 0), (2, .if_icmp .lt 7, 0, 9), (5, .iload_n 0, 0, 0), (6, .goto 4, 0, 10), (9, .iload_n 1, 0, 0), (10, .ireturn, 0, 0)]]
def qp_k3 : List (List (Nat × Instr × Int32 × Nat)) := [
  [(0, .aload_n 0, 0, 0), (1, .invokespecial 3, 0, 5), (4, .aload_n 0, 0, 0), (5, .new 9, 0, 3), (8, .dup, 0, 0), (9, .invokespecial 11, 0, 44), (12, .putfield 12, 0, 200), (15, .aload_n 0, 0, 0)],
  [(16, .aload_n 1, 0, 0), (17, .putfield 18, 0, 201), (20, .return_, 0, 0)]]
def qp_k4 : List (List (Nat × Instr × Int32 × Nat)) := [
  [(0, .aload_n 0, 0, 0), (1, .invokespecial 3, 0, 5), (4, .aload_n 0, 0, 0), (5, .bipush 6, 6, 0), (7, .newarray .int, 0, 0), (9, .putfield 9, 0, 302), (12, .aload_n 0, 0, 0), (13, .bipush 6, 6, 0), (15, .newarray .int, 0, 0)],
  [(17, .putfield 15, 0, 303), (20, .return_, 0, 0)]]
def qp_k5 : List (List (Nat × Instr × Int32 × Nat)) := [
  [(0, .aload_n 0, 0, 0), (1, .invokespecial 3, 0, 5), (4, .aload_n 0, 0, 0), (5, .new 9, 0, 3), (8, .dup, 0, 0), (9, .invokespecial 11, 0, 44), (12, .putfield 12, 0, 400), (15, .aload_n 0, 0, 0)],
  [(16, .new 18, 0, 5), (19, .dup, 0, 0), (20, .aload_n 0, 0, 0), (21, .getfield 12, 0, 400), (24, .invokespecial 20, 0, 62), (27, .putfield 23, 0, 401), (30, .aload_n 0, 0, 0), (31, .bipush 12, 12, 0)],
  [(33, .newarray .int, 0, 0), (35, .putfield 27, 0, 406), (38, .aload_n 0, 0, 0), (39, .bipush 40, 40, 0), (41, .newarray .int, 0, 0), (43, .putfield 31, 0, 407), (46, .return_, 0, 0)]]
def qp_k6 : List (List (Nat × Instr × Int32 × Nat)) := [
  [(0, .aload_n 0, 0, 0), (1, .invokespecial 3, 0, 5), (4, .aload_n 0, 0, 0), (5, .bipush 6, 6, 0), (7, .newarray .int, 0, 0), (9, .putfield 9, 0, 506), (12, .aload_n 0, 0, 0), (13, .bipush 6, 6, 0), (15, .newarray .int, 0, 0)],
  [(17, .putfield 15, 0, 507), (20, .aload_n 0, 0, 0), (21, .bipush 6, 6, 0), (23, .newarray .int, 0, 0), (25, .putfield 18, 0, 508), (28, .aload_n 0, 0, 0), (29, .bipush 6, 6, 0), (31, .newarray .int, 0, 0)],
  [(33, .putfield 21, 0, 509), (36, .aload_n 0, 0, 0), (37, .aload_n 1, 0, 0), (38, .putfield 24, 0, 502), (41, .return_, 0, 0)]]
def qp_k7 : List (List (Nat × Instr × Int32 × Nat)) := [
  [(0, .aload_n 0, 0, 0), (1, .invokespecial 3, 0, 5), (4, .aload_n 0, 0, 0), (5, .sipush 720, 720, 0), (8, .newarray .int, 0, 0), (10, .putfield 9, 0, 601), (13, .aload_n 0, 0, 0), (14, .sipush 720, 720, 0)],
  [(17, .newarray .int, 0, 0), (19, .putfield 15, 0, 602), (22, .aload_n 0, 0, 0), (23, .sipush 720, 720, 0), (26, .newarray .boolean, 0, 0), (28, .putfield 18, 0, 603), (31, .aload_n 0, 0, 0)],
  [(32, .aload_n 1, 0, 0), (33, .putfield 22, 0, 600), (36, .return_, 0, 0)]]
def qp_k8 : List (List (Nat × Instr × Int32 × Nat)) := [
  [(0, .aload_n 0, 0, 0), (1, .invokespecial 3, 0, 5), (4, .aload_n 0, 0, 0), (5, .bipush 6, 6, 0), (7, .newarray .int, 0, 0), (9, .putfield 9, 0, 702), (12, .aload_n 0, 0, 0), (13, .bipush 6, 6, 0), (15, .newarray .int, 0, 0)],
  [(17, .putfield 15, 0, 703), (20, .aload_n 0, 0, 0), (21, .bipush 24, 24, 0), (23, .newarray .int, 0, 0), (25, .putfield 18, 0, 704), (28, .aload_n 0, 0, 0), (29, .aload_n 1, 0, 0), (30, .putfield 21, 0, 701)],
  [(33, .return_, 0, 0)]]
def qp_k9 : List (List (Nat × Instr × Int32 × Nat)) := [
  [(0, .aload_n 0, 0, 0), (1, .invokespecial 1, 0, 5), (4, .aload_n 0, 0, 0), (5, .aload_n 1, 0, 0), (6, .putfield 7, 0, 800), (9, .return_, 0, 0)]]
def qp_k10 : List (List (Nat × Instr × Int32 × Nat)) := [
  [(0, .aload_n 0, 0, 0), (1, .invokespecial 3, 0, 5), (4, .aload_n 0, 0, 0), (5, .aload_n 1, 0, 0), (6, .putfield 9, 0, 900), (9, .return_, 0, 0)]]
def qp_k11 : List (List (Nat × Instr × Int32 × Nat)) := [
  [(0, .aload_n 0, 0, 0), (1, .aload_n 0, 0, 0), (2, .getfield 14, 0, 0), (5, .iload_n 1, 0, 0), (6, .iload_n 2, 0, 0), (7, .iconst 0, 0, 0), (8, .invokevirtual 78, 0, 120), (11, .ireturn, 0, 0)]]
def qp_k12 : List (List (Nat × Instr × Int32 × Nat)) := [
  [(0, .aload_n 1, 0, 0), (1, .iload_n 2, 0, 0), (2, .invokevirtual 106, 0, 130), (5, .ifCond .eq 11, 0, 16), (8, .iload_n 3, 0, 0), (9, .aload_n 1, 0, 0), (10, .getfield 312, 0, 100), (13, .if_icmp .le 5, 0, 18)],
  [(16, .iconst (-1), (-1), 0), (17, .ireturn, 0, 0), (18, .iload_n 3, 0, 0), (19, .ifCond .ge 9, 0, 28), (22, .aload_n 0, 0, 0), (23, .iconst 5, 5, 0), (24, .invokevirtual 110, 0, 140), (27, .ireturn, 0, 0), (28, .aload_n 1, 0, 0), (29, .iload_n 2, 0, 0), (30, .iload_n 3, 0, 0), (31, .iload 4, 0, 0)],
  [(33, .invokevirtual 215, 0, 150), (36, .iload_n 3, 0, 0), (37, .ireturn, 0, 0)]]
def qp_k13 : List (List (Nat × Instr × Int32 × Nat)) := [
  [(0, .iload_n 1, 0, 0), (1, .ifCond .lt 16, 0, 17), (4, .iload_n 1, 0, 0), (5, .aload_n 0, 0, 0), (6, .getfield 19, 0, 101), (9, .arraylength, 0, 0), (10, .if_icmp .ge 7, 0, 17), (13, .iconst 1, 1, 0), (14, .goto 4, 0, 18)],
  [(17, .iconst 0, 0, 0), (18, .ireturn, 0, 0)]]
def qp_k14 : List (List (Nat × Instr × Int32 × Nat)) := [
  [(0, .aload_n 0, 0, 0), (1, .iload_n 1, 0, 0), (2, .putfield 298, 0, 10), (5, .iload_n 1, 0, 0), (6, .iconst 1, 1, 0), (7, .if_icmp .lt 18, 0, 25), (10, .iload_n 1, 0, 0), (11, .iconst 5, 5, 0), (12, .if_icmp .gt 13, 0, 25), (15, .aload_n 0, 0, 0)],
  [(16, .getfield 70, 0, 9), (19, .iload_n 1, 0, 0), (20, .dup2, 0, 0), (21, .iaload, 0, 0), (22, .iconst 1, 1, 0), (23, .iadd, 0, 0), (24, .iastore, 0, 0), (25, .bipush (-3), (-3), 0), (27, .ireturn, 0, 0)]]
def qp_k15 : List (List (Nat × Instr × Int32 × Nat)) := [
  [(0, .aload_n 0, 0, 0), (1, .iload_n 1, 0, 0), (2, .invokevirtual 26, 0, 130), (5, .ifCond .eq 52, 0, 57), (8, .iload_n 2, 0, 0), (9, .ifCond .lt 48, 0, 57), (12, .iload_n 2, 0, 0), (13, .aload_n 0, 0, 0), (14, .getfield 7, 0, 100)],
  [(17, .if_icmp .gt 40, 0, 57), (20, .aload_n 0, 0, 0), (21, .getfield 19, 0, 101), (24, .iload_n 1, 0, 0), (25, .iload_n 2, 0, 0), (26, .iastore, 0, 0), (27, .iconst 0, 0, 0), (28, .istore 4, 0, 0), (30, .iload 4, 0, 0)],
  [(32, .iload_n 2, 0, 0), (33, .if_icmp .ge 24, 0, 57), (36, .aload_n 0, 0, 0), (37, .getfield 23, 0, 102), (40, .iload_n 1, 0, 0), (41, .aload_n 0, 0, 0), (42, .getfield 7, 0, 100), (45, .imul, 0, 0), (46, .iload 4, 0, 0)],
  [(48, .iadd, 0, 0), (49, .iload_n 3, 0, 0), (50, .iastore, 0, 0), (51, .iinc 4 1, 1, 0), (54, .goto (-24), 0, 30), (57, .return_, 0, 0)]]
def qp_k16 : List (List (Nat × Instr × Int32 × Nat)) := [
  [(0, .aload_n 0, 0, 0), (1, .aload_n 0, 0, 0), (2, .getfield 14, 0, 0), (5, .iload_n 1, 0, 0), (6, .iload_n 2, 0, 0), (7, .invokevirtual 82, 0, 170), (10, .istore 4, 0, 0), (12, .iload 4, 0, 0), (14, .ifCond .eq 6, 0, 20)],
  [(17, .iload 4, 0, 0), (19, .ireturn, 0, 0), (20, .aload_n 0, 0, 0), (21, .getfield 14, 0, 0), (24, .iload_n 1, 0, 0), (25, .iload_n 2, 0, 0), (26, .invokevirtual 86, 0, 220), (29, .istore 5, 0, 0), (31, .aload_n 0, 0, 0)],
  [(32, .getfield 14, 0, 0), (35, .iload_n 1, 0, 0), (36, .iload_n 2, 0, 0), (37, .iload_n 3, 0, 0), (38, .invokevirtual 90, 0, 230), (41, .aload_n 0, 0, 0), (42, .iload 5, 0, 0), (44, .invokevirtual 94, 0, 240), (47, .ireturn, 0, 0)]]
def qp_k17 : List (List (Nat × Instr × Int32 × Nat)) := [
  [(0, .aload_n 0, 0, 0), (1, .aload_n 1, 0, 0), (2, .iload_n 2, 0, 0), (3, .invokevirtual 98, 0, 180), (6, .istore 4, 0, 0), (8, .iload 4, 0, 0), (10, .ifCond .eq 6, 0, 16), (13, .iload 4, 0, 0), (15, .ireturn, 0, 0)],
  [(16, .aload_n 1, 0, 0), (17, .iload_n 2, 0, 0), (18, .iload_n 3, 0, 0), (19, .invokevirtual 309, 0, 210), (22, .ifCond .eq 7, 0, 29), (25, .iconst 0, 0, 0), (26, .goto 8, 0, 34), (29, .aload_n 0, 0, 0), (30, .iconst 2, 2, 0), (31, .invokevirtual 110, 0, 140)],
  [(34, .ireturn, 0, 0)]]
def qp_k18 : List (List (Nat × Instr × Int32 × Nat)) := [
  [(0, .aload_n 1, 0, 0), (1, .iload_n 2, 0, 0), (2, .invokevirtual 106, 0, 130), (5, .ifCond .ne 5, 0, 10), (8, .iconst (-1), (-1), 0), (9, .ireturn, 0, 0), (10, .aload_n 1, 0, 0), (11, .iload_n 2, 0, 0), (12, .invokevirtual 113, 0, 190), (15, .ifCond .eq 7, 0, 22)],
  [(18, .iconst 0, 0, 0), (19, .goto 8, 0, 27), (22, .aload_n 0, 0, 0), (23, .iconst 1, 1, 0), (24, .invokevirtual 110, 0, 140), (27, .ireturn, 0, 0)]]
def qp_k19 : List (List (Nat × Instr × Int32 × Nat)) := [
  [(0, .aload_n 0, 0, 0), (1, .iload_n 1, 0, 0), (2, .invokevirtual 30, 0, 200), (5, .iconst (-1), (-1), 0), (6, .if_icmp .eq 7, 0, 13), (9, .iconst 1, 1, 0), (10, .goto 4, 0, 14), (13, .iconst 0, 0, 0), (14, .ireturn, 0, 0)]]
def qp_k20 : List (List (Nat × Instr × Int32 × Nat)) := [
  [(0, .aload_n 0, 0, 0), (1, .iload_n 1, 0, 0), (2, .invokevirtual 26, 0, 130), (5, .ifCond .eq 12, 0, 17), (8, .aload_n 0, 0, 0), (9, .getfield 19, 0, 101), (12, .iload_n 1, 0, 0), (13, .iaload, 0, 0), (14, .goto 4, 0, 18)],
  [(17, .iconst (-1), (-1), 0), (18, .ireturn, 0, 0)]]
def qp_k21 : List (List (Nat × Instr × Int32 × Nat)) := [
  [(0, .aload_n 0, 0, 0), (1, .iload_n 1, 0, 0), (2, .invokevirtual 26, 0, 130), (5, .ifCond .eq 21, 0, 26), (8, .iload_n 2, 0, 0), (9, .ifCond .lt 17, 0, 26), (12, .iload_n 2, 0, 0), (13, .aload_n 0, 0, 0), (14, .getfield 19, 0, 101)],
  [(17, .iload_n 1, 0, 0), (18, .iaload, 0, 0), (19, .if_icmp .ge 7, 0, 26), (22, .iconst 1, 1, 0), (23, .goto 4, 0, 27), (26, .iconst 0, 0, 0), (27, .ireturn, 0, 0)]]
def qp_k22 : List (List (Nat × Instr × Int32 × Nat)) := [
  [(0, .aload_n 0, 0, 0), (1, .iload_n 1, 0, 0), (2, .iload_n 2, 0, 0), (3, .invokevirtual 37, 0, 210), (6, .ifCond .eq 19, 0, 25), (9, .aload_n 0, 0, 0), (10, .getfield 23, 0, 102), (13, .iload_n 1, 0, 0), (14, .aload_n 0, 0, 0), (15, .getfield 7, 0, 100)],
  [(18, .imul, 0, 0), (19, .iload_n 2, 0, 0), (20, .iadd, 0, 0), (21, .iaload, 0, 0), (22, .goto 4, 0, 26), (25, .iconst 0, 0, 0), (26, .ireturn, 0, 0)]]
def qp_k23 : List (List (Nat × Instr × Int32 × Nat)) := [
  [(0, .aload_n 0, 0, 0), (1, .iload_n 1, 0, 0), (2, .iload_n 2, 0, 0), (3, .invokevirtual 37, 0, 210), (6, .ifCond .eq 17, 0, 23), (9, .aload_n 0, 0, 0), (10, .getfield 23, 0, 102), (13, .iload_n 1, 0, 0), (14, .aload_n 0, 0, 0), (15, .getfield 7, 0, 100)],
  [(18, .imul, 0, 0), (19, .iload_n 2, 0, 0), (20, .iadd, 0, 0), (21, .iload_n 3, 0, 0), (22, .iastore, 0, 0), (23, .return_, 0, 0)]]
def qp_k24 : List (List (Nat × Instr × Int32 × Nat)) := [
  [(0, .aload_n 0, 0, 0), (1, .iload_n 1, 0, 0), (2, .putfield 289, 0, 11), (5, .iconst 1, 1, 0), (6, .ireturn, 0, 0)]]
def qp_k25 : List (List (Nat × Instr × Int32 × Nat)) := [
  [(0, .aload_n 0, 0, 0), (1, .aload_n 0, 0, 0), (2, .getfield 14, 0, 0), (5, .iload_n 1, 0, 0), (6, .iload_n 2, 0, 0), (7, .invokevirtual 82, 0, 170), (10, .istore_n 3, 0, 0), (11, .iload_n 3, 0, 0), (12, .ifCond .eq 5, 0, 17), (15, .iload_n 3, 0, 0)],
  [(16, .ireturn, 0, 0), (17, .aload_n 0, 0, 0), (18, .aload_n 0, 0, 0), (19, .getfield 14, 0, 0), (22, .iload_n 1, 0, 0), (23, .iload_n 2, 0, 0), (24, .invokevirtual 86, 0, 220), (27, .invokevirtual 94, 0, 240), (30, .ireturn, 0, 0)]]
def qp_k26 : List (List (Nat × Instr × Int32 × Nat)) := [
  [(0, .aload_n 0, 0, 0), (1, .aload_n 0, 0, 0), (2, .getfield 14, 0, 0), (5, .iload_n 1, 0, 0), (6, .invokevirtual 98, 0, 180), (9, .istore_n 2, 0, 0), (10, .iload_n 2, 0, 0), (11, .ifCond .eq 5, 0, 16), (14, .iload_n 2, 0, 0), (15, .ireturn, 0, 0)],
  [(16, .aload_n 0, 0, 0), (17, .getfield 14, 0, 0), (20, .iload_n 1, 0, 0), (21, .invokevirtual 102, 0, 270), (24, .iconst 1, 1, 0), (25, .ireturn, 0, 0)]]
def qp_k27 : List (List (Nat × Instr × Int32 × Nat)) := [
  [(0, .aload_n 0, 0, 0), (1, .iload_n 1, 0, 0), (2, .invokevirtual 26, 0, 130), (5, .ifCond .eq 10, 0, 15), (8, .aload_n 0, 0, 0), (9, .getfield 19, 0, 101), (12, .iload_n 1, 0, 0), (13, .iconst (-1), (-1), 0), (14, .iastore, 0, 0), (15, .return_, 0, 0)]]
def qp_k28 : List (List (Nat × Instr × Int32 × Nat)) := [
  [(0, .aload_n 0, 0, 0), (1, .getfield 14, 0, 0), (4, .iload_n 1, 0, 0), (5, .invokevirtual 106, 0, 130), (8, .ifCond .eq 14, 0, 22), (11, .aload_n 0, 0, 0), (12, .getfield 14, 0, 0), (15, .iload_n 3, 0, 0)],
  [(16, .invokevirtual 106, 0, 130), (19, .ifCond .ne 5, 0, 24), (22, .iconst (-1), (-1), 0), (23, .ireturn, 0, 0), (24, .iload 5, 0, 0), (26, .ifCond .ge 9, 0, 35), (29, .aload_n 0, 0, 0), (30, .iconst 5, 5, 0), (31, .invokevirtual 110, 0, 140)],
  [(34, .ireturn, 0, 0), (35, .aload_n 0, 0, 0), (36, .getfield 14, 0, 0), (39, .iload_n 1, 0, 0), (40, .invokevirtual 113, 0, 190), (43, .ifCond .eq 14, 0, 57), (46, .aload_n 0, 0, 0), (47, .getfield 14, 0, 0)],
  [(50, .iload_n 3, 0, 0), (51, .invokevirtual 113, 0, 190), (54, .ifCond .ne 9, 0, 63), (57, .aload_n 0, 0, 0), (58, .iconst 1, 1, 0), (59, .invokevirtual 110, 0, 140), (62, .ireturn, 0, 0), (63, .aload_n 0, 0, 0)],
  [(64, .getfield 14, 0, 0), (67, .iload_n 1, 0, 0), (68, .iload_n 2, 0, 0), (69, .iload 5, 0, 0), (71, .invokevirtual 116, 0, 290), (74, .ifCond .eq 18, 0, 92), (77, .aload_n 0, 0, 0), (78, .getfield 14, 0, 0)],
  [(81, .iload_n 3, 0, 0), (82, .iload 4, 0, 0), (84, .iload 5, 0, 0), (86, .invokevirtual 116, 0, 290), (89, .ifCond .ne 9, 0, 98), (92, .aload_n 0, 0, 0), (93, .iconst 2, 2, 0), (94, .invokevirtual 110, 0, 140)],
  [(97, .ireturn, 0, 0), (98, .aload_n 0, 0, 0), (99, .getfield 14, 0, 0), (102, .iload_n 1, 0, 0), (103, .iload_n 2, 0, 0), (104, .iload_n 3, 0, 0), (105, .iload 4, 0, 0), (107, .iload 5, 0, 0), (109, .invokevirtual 120, 0, 300)],
  [(112, .iconst 1, 1, 0), (113, .ireturn, 0, 0)]]
def qp_k29 : List (List (Nat × Instr × Int32 × Nat)) := [
  [(0, .aload_n 0, 0, 0), (1, .iload_n 1, 0, 0), (2, .invokevirtual 34, 0, 190), (5, .ifCond .eq 26, 0, 31), (8, .iload_n 3, 0, 0), (9, .ifCond .lt 22, 0, 31), (12, .iload_n 2, 0, 0), (13, .ifCond .lt 18, 0, 31)],
  [(16, .iload_n 2, 0, 0), (17, .aload_n 0, 0, 0), (18, .iload_n 1, 0, 0), (19, .invokevirtual 30, 0, 200), (22, .iload_n 3, 0, 0), (23, .isub, 0, 0), (24, .if_icmp .gt 7, 0, 31), (27, .iconst 1, 1, 0), (28, .goto 4, 0, 32), (31, .iconst 0, 0, 0)],
  [(32, .ireturn, 0, 0)]]
def qp_k30 : List (List (Nat × Instr × Int32 × Nat)) := [
  [(0, .aload_n 0, 0, 0), (1, .iload_n 1, 0, 0), (2, .iload_n 2, 0, 0), (3, .iload 5, 0, 0), (5, .invokevirtual 41, 0, 290), (8, .ifCond .eq 45, 0, 53), (11, .aload_n 0, 0, 0), (12, .iload_n 3, 0, 0), (13, .iload 4, 0, 0), (15, .iload 5, 0, 0)],
  [(17, .invokevirtual 41, 0, 290), (20, .ifCond .eq 33, 0, 53), (23, .aload_n 0, 0, 0), (24, .getfield 23, 0, 102), (27, .iload_n 1, 0, 0), (28, .aload_n 0, 0, 0), (29, .getfield 7, 0, 100)],
  [(32, .imul, 0, 0), (33, .iload_n 2, 0, 0), (34, .iadd, 0, 0), (35, .aload_n 0, 0, 0), (36, .getfield 23, 0, 102), (39, .iload_n 3, 0, 0), (40, .aload_n 0, 0, 0), (41, .getfield 7, 0, 100), (44, .imul, 0, 0), (45, .iload 4, 0, 0), (47, .iadd, 0, 0)],
  [(48, .iload 5, 0, 0), (50, .invokestatic 45, 0, 6), (53, .return_, 0, 0)]]
def qp_k31 : List (List (Nat × Instr × Int32 × Nat)) := [
  [(0, .aload_n 0, 0, 0), (1, .aload_n 0, 0, 0), (2, .getfield 14, 0, 0), (5, .iload_n 1, 0, 0), (6, .invokevirtual 98, 0, 180), (9, .istore_n 2, 0, 0), (10, .iload_n 2, 0, 0), (11, .ifCond .eq 5, 0, 16), (14, .iload_n 2, 0, 0), (15, .ireturn, 0, 0)],
  [(16, .aload_n 0, 0, 0), (17, .getfield 14, 0, 0), (20, .iload_n 1, 0, 0), (21, .invokevirtual 124, 0, 200), (24, .istore_n 3, 0, 0), (25, .iload_n 3, 0, 0), (26, .ifCond .gt 9, 0, 35), (29, .aload_n 0, 0, 0), (30, .iconst 4, 4, 0), (31, .invokevirtual 110, 0, 140)],
  [(34, .ireturn, 0, 0), (35, .aload_n 0, 0, 0), (36, .aload_n 0, 0, 0), (37, .getfield 14, 0, 0), (40, .iload_n 1, 0, 0), (41, .invokevirtual 127, 0, 320), (44, .iload_n 3, 0, 0), (45, .i2l, 0, 0), (46, .ldiv, 0, 0), (47, .l2i, 0, 0)],
  [(48, .invokevirtual 94, 0, 240), (51, .ireturn, 0, 0)]]
def qp_k32 : List (List (Nat × Instr × Int32 × Nat)) := [
  [(0, .lconst 0, 0, 0), (1, .lstore_n 2, 0, 0), (2, .iconst 0, 0, 0), (3, .istore 4, 0, 0), (5, .iload 4, 0, 0), (7, .aload_n 0, 0, 0), (8, .iload_n 1, 0, 0), (9, .invokevirtual 30, 0, 200), (12, .if_icmp .ge 20, 0, 32), (15, .lload_n 2, 0, 0)],
  [(16, .aload_n 0, 0, 0), (17, .iload_n 1, 0, 0), (18, .iload 4, 0, 0), (20, .invokevirtual 51, 0, 220), (23, .i2l, 0, 0), (24, .ladd, 0, 0), (25, .lstore_n 2, 0, 0), (26, .iinc 4 1, 1, 0), (29, .goto (-24), 0, 5)],
  [(32, .lload_n 2, 0, 0), (33, .lreturn, 0, 0)]]
def qp_k33 : List (List (Nat × Instr × Int32 × Nat)) := [
  [(0, .aload_n 0, 0, 0), (1, .aload_n 0, 0, 0), (2, .getfield 18, 0, 1), (5, .iload_n 1, 0, 0), (6, .iload_n 2, 0, 0), (7, .bipush 32, 32, 0), (9, .invokevirtual 78, 0, 120), (12, .ireturn, 0, 0)]]
def qp_k34 : List (List (Nat × Instr × Int32 × Nat)) := [
  [(0, .aload_n 0, 0, 0), (1, .aload_n 0, 0, 0), (2, .getfield 18, 0, 1), (5, .iload_n 1, 0, 0), (6, .iload_n 2, 0, 0), (7, .invokevirtual 82, 0, 170), (10, .istore 4, 0, 0), (12, .iload 4, 0, 0), (14, .ifCond .eq 6, 0, 20)],
  [(17, .iload 4, 0, 0), (19, .ireturn, 0, 0), (20, .aload_n 0, 0, 0), (21, .getfield 18, 0, 1), (24, .iload_n 1, 0, 0), (25, .iload_n 2, 0, 0), (26, .invokevirtual 86, 0, 220), (29, .istore 5, 0, 0), (31, .aload_n 0, 0, 0)],
  [(32, .getfield 18, 0, 1), (35, .iload_n 1, 0, 0), (36, .iload_n 2, 0, 0), (37, .iload_n 3, 0, 0), (38, .i2b, 0, 0), (39, .invokevirtual 90, 0, 230), (42, .iload 5, 0, 0), (44, .sipush 1000, 1000, 0), (47, .iadd, 0, 0)],
  [(48, .ireturn, 0, 0)]]
def qp_k35 : List (List (Nat × Instr × Int32 × Nat)) := [
  [(0, .aload_n 0, 0, 0), (1, .aload_n 0, 0, 0), (2, .getfield 18, 0, 1), (5, .iload_n 1, 0, 0), (6, .invokevirtual 98, 0, 180), (9, .istore_n 2, 0, 0), (10, .iload_n 2, 0, 0), (11, .ifCond .eq 5, 0, 16), (14, .iload_n 2, 0, 0), (15, .ireturn, 0, 0)],
  [(16, .aload_n 0, 0, 0), (17, .getfield 29, 0, 3), (20, .iload_n 1, 0, 0), (21, .invokevirtual 131, 0, 360), (24, .ireturn, 0, 0)]]
def qp_k36 : List (List (Nat × Instr × Int32 × Nat)) := [
  [(0, .aload_n 0, 0, 0), (1, .iload_n 1, 0, 0), (2, .putfield 22, 0, 202), (5, .aload_n 0, 0, 0), (6, .iconst 0, 0, 0), (7, .putfield 26, 0, 203), (10, .aload_n 0, 0, 0), (11, .getfield 12, 0, 200), (14, .invokevirtual 29, 0, 370)],
  [(17, .aload_n 0, 0, 0), (18, .invokevirtual 32, 0, 380), (21, .aload_n 0, 0, 0), (22, .getfield 26, 0, 203), (25, .aload_n 0, 0, 0), (26, .getfield 18, 0, 201), (29, .aload_n 0, 0, 0), (30, .getfield 22, 0, 202)],
  [(33, .invokevirtual 35, 0, 200), (36, .if_icmp .ge 23, 0, 59), (39, .aload_n 0, 0, 0), (40, .getfield 18, 0, 201), (43, .aload_n 0, 0, 0), (44, .getfield 22, 0, 202), (47, .aload_n 0, 0, 0)],
  [(48, .getfield 26, 0, 203), (51, .invokevirtual 41, 0, 220), (54, .bipush 113, 113, 0), (56, .if_icmp .eq 8, 0, 64), (59, .aload_n 0, 0, 0), (60, .getfield 26, 0, 203), (63, .ireturn, 0, 0)],
  [(64, .aload_n 0, 0, 0), (65, .dup, 0, 0), (66, .getfield 26, 0, 203), (69, .iconst 1, 1, 0), (70, .iadd, 0, 0), (71, .putfield 26, 0, 203), (74, .aload_n 0, 0, 0), (75, .invokevirtual 45, 0, 390), (78, .ifCond .eq 10, 0, 88)],
  [(81, .aload_n 0, 0, 0), (82, .invokevirtual 49, 0, 410), (85, .goto 7, 0, 92), (88, .aload_n 0, 0, 0), (89, .getfield 26, 0, 203), (92, .ireturn, 0, 0)]]
def qp_k37 : List (List (Nat × Instr × Int32 × Nat)) := [
  [(0, .aload_n 0, 0, 0), (1, .iconst 0, 0, 0), (2, .putfield 18, 0, 300), (5, .aload_n 0, 0, 0), (6, .iconst 0, 0, 0), (7, .putfield 22, 0, 301), (10, .return_, 0, 0)]]
def qp_k38 : List (List (Nat × Instr × Int32 × Nat)) := [
  [(0, .aload_n 0, 0, 0), (1, .getfield 26, 0, 203), (4, .aload_n 0, 0, 0), (5, .getfield 18, 0, 201), (8, .aload_n 0, 0, 0), (9, .getfield 22, 0, 202), (12, .invokevirtual 35, 0, 200), (15, .if_icmp .ge 36, 0, 51)],
  [(18, .aload_n 0, 0, 0), (19, .getfield 18, 0, 201), (22, .aload_n 0, 0, 0), (23, .getfield 22, 0, 202), (26, .aload_n 0, 0, 0), (27, .getfield 26, 0, 203), (30, .invokevirtual 41, 0, 220)],
  [(33, .bipush 32, 32, 0), (35, .if_icmp .ne 16, 0, 51), (38, .aload_n 0, 0, 0), (39, .dup, 0, 0), (40, .getfield 26, 0, 203), (43, .iconst 1, 1, 0), (44, .iadd, 0, 0), (45, .putfield 26, 0, 203)],
  [(48, .goto (-48), 0, 0), (51, .return_, 0, 0)]]
def qp_k39 : List (List (Nat × Instr × Int32 × Nat)) := [
  [(0, .aload_n 0, 0, 0), (1, .aload_n 0, 0, 0), (2, .getfield 26, 0, 203), (5, .invokevirtual 53, 0, 400), (8, .istore_n 1, 0, 0), (9, .iload_n 1, 0, 0), (10, .ifCond .ge 5, 0, 15), (13, .iconst 0, 0, 0), (14, .ireturn, 0, 0), (15, .aload_n 0, 0, 0)],
  [(16, .aload_n 0, 0, 0), (17, .getfield 26, 0, 203), (20, .iconst 1, 1, 0), (21, .iadd, 0, 0), (22, .invokevirtual 53, 0, 400), (25, .istore_n 2, 0, 0), (26, .iload_n 2, 0, 0), (27, .ifCond .ge 15, 0, 42), (30, .aload_n 0, 0, 0), (31, .dup, 0, 0)],
  [(32, .getfield 26, 0, 203), (35, .iconst 1, 1, 0), (36, .iadd, 0, 0), (37, .putfield 26, 0, 203), (40, .iconst 0, 0, 0), (41, .ireturn, 0, 0), (42, .aload_n 0, 0, 0), (43, .getfield 12, 0, 200), (46, .bipush 10, 10, 0)],
  [(48, .iload_n 1, 0, 0), (49, .imul, 0, 0), (50, .iload_n 2, 0, 0), (51, .iadd, 0, 0), (52, .putfield 56, 0, 301), (55, .aload_n 0, 0, 0), (56, .getfield 12, 0, 200), (59, .getfield 56, 0, 301), (62, .bipush 20, 20, 0)],
  [(64, .if_icmp .le 5, 0, 69), (67, .iconst 0, 0, 0), (68, .ireturn, 0, 0), (69, .aload_n 0, 0, 0), (70, .dup, 0, 0), (71, .getfield 26, 0, 203), (74, .iconst 2, 2, 0), (75, .iadd, 0, 0), (76, .putfield 26, 0, 203), (79, .iconst 1, 1, 0)],
  [(80, .ireturn, 0, 0)]]
def qp_k40 : List (List (Nat × Instr × Int32 × Nat)) := [
  [(0, .aload_n 0, 0, 0), (1, .getfield 18, 0, 201), (4, .aload_n 0, 0, 0), (5, .getfield 22, 0, 202), (8, .iload_n 1, 0, 0), (9, .invokevirtual 41, 0, 220), (12, .istore_n 2, 0, 0), (13, .aload_n 0, 0, 0), (14, .getfield 18, 0, 201)],
  [(17, .aload_n 0, 0, 0), (18, .getfield 22, 0, 202), (21, .iload_n 1, 0, 0), (22, .invokevirtual 66, 0, 210), (25, .ifCond .eq 19, 0, 44), (28, .iload_n 2, 0, 0), (29, .bipush 48, 48, 0), (31, .if_icmp .lt 13, 0, 44)],
  [(34, .iload_n 2, 0, 0), (35, .bipush 57, 57, 0), (37, .if_icmp .gt 7, 0, 44), (40, .iconst 1, 1, 0), (41, .goto 4, 0, 45), (44, .iconst 0, 0, 0), (45, .istore_n 3, 0, 0), (46, .iload_n 3, 0, 0), (47, .ifCond .eq 10, 0, 57)],
  [(50, .iload_n 2, 0, 0), (51, .bipush 48, 48, 0), (53, .isub, 0, 0), (54, .goto 4, 0, 58), (57, .iconst (-1), (-1), 0), (58, .ireturn, 0, 0)]]
def qp_k41 : List (List (Nat × Instr × Int32 × Nat)) := [
  [(0, .iconst 0, 0, 0), (1, .istore_n 1, 0, 0), (2, .iload_n 1, 0, 0), (3, .bipush 6, 6, 0), (5, .if_icmp .gt 110, 0, 115), (8, .aload_n 0, 0, 0), (9, .invokevirtual 32, 0, 380), (12, .iload_n 1, 0, 0), (13, .ifCond .le 24, 0, 37)],
  [(16, .aload_n 0, 0, 0), (17, .getfield 26, 0, 203), (20, .aload_n 0, 0, 0), (21, .getfield 18, 0, 201), (24, .aload_n 0, 0, 0), (25, .getfield 22, 0, 202), (28, .invokevirtual 35, 0, 200), (31, .if_icmp .lt 6, 0, 37)],
  [(34, .bipush (-9), (-9), 0), (36, .ireturn, 0, 0), (37, .aload_n 0, 0, 0), (38, .aload_n 0, 0, 0), (39, .getfield 26, 0, 203), (42, .invokevirtual 59, 0, 420), (45, .istore_n 2, 0, 0), (46, .iload_n 2, 0, 0), (47, .ifCond .lt 9, 0, 56)],
  [(50, .iload_n 1, 0, 0), (51, .bipush 6, 6, 0), (53, .if_icmp .ne 8, 0, 61), (56, .aload_n 0, 0, 0), (57, .getfield 26, 0, 203), (60, .ireturn, 0, 0), (61, .aload_n 0, 0, 0), (62, .dup, 0, 0), (63, .getfield 26, 0, 203)],
  [(66, .iconst 1, 1, 0), (67, .iadd, 0, 0), (68, .putfield 26, 0, 203), (71, .aload_n 0, 0, 0), (72, .aload_n 0, 0, 0), (73, .getfield 26, 0, 203), (76, .invokevirtual 53, 0, 400), (79, .istore_n 3, 0, 0)],
  [(80, .iload_n 3, 0, 0), (81, .iconst 1, 1, 0), (82, .if_icmp .ge 8, 0, 90), (85, .aload_n 0, 0, 0), (86, .getfield 26, 0, 203), (89, .ireturn, 0, 0), (90, .aload_n 0, 0, 0), (91, .dup, 0, 0), (92, .getfield 26, 0, 203), (95, .iconst 1, 1, 0)],
  [(96, .iadd, 0, 0), (97, .putfield 26, 0, 203), (100, .aload_n 0, 0, 0), (101, .getfield 12, 0, 200), (104, .iload_n 2, 0, 0), (105, .iload_n 3, 0, 0), (106, .invokevirtual 62, 0, 430), (109, .iinc 1 1, 1, 0)],
  [(112, .goto (-110), 0, 2), (115, .aload_n 0, 0, 0), (116, .getfield 26, 0, 203), (119, .ireturn, 0, 0)]]
def qp_k42 : List (List (Nat × Instr × Int32 × Nat)) := [
  [(0, .aload_n 0, 0, 0), (1, .getfield 18, 0, 201), (4, .aload_n 0, 0, 0), (5, .getfield 22, 0, 202), (8, .iload_n 1, 0, 0), (9, .invokevirtual 66, 0, 210), (12, .ifCond .ne 5, 0, 17), (15, .iconst (-1), (-1), 0)],
  [(16, .ireturn, 0, 0), (17, .iconst 0, 0, 0), (18, .istore_n 2, 0, 0), (19, .iload_n 2, 0, 0), (20, .getstatic 70, 0, 1), (23, .arraylength, 0, 0), (24, .if_icmp .ge 31, 0, 55), (27, .aload_n 0, 0, 0), (28, .getfield 18, 0, 201), (31, .aload_n 0, 0, 0)],
  [(32, .getfield 22, 0, 202), (35, .iload_n 1, 0, 0), (36, .invokevirtual 41, 0, 220), (39, .getstatic 70, 0, 1), (42, .iload_n 2, 0, 0), (43, .iaload, 0, 0), (44, .if_icmp .ne 5, 0, 49), (47, .iload_n 2, 0, 0)],
  [(48, .ireturn, 0, 0), (49, .iinc 2 1, 1, 0), (52, .goto (-33), 0, 19), (55, .iconst (-1), (-1), 0), (56, .ireturn, 0, 0)]]
def qp_k43 : List (List (Nat × Instr × Int32 × Nat)) := [
  [(0, .aload_n 0, 0, 0), (1, .getfield 18, 0, 300), (4, .ifCond .lt 57, 0, 61), (7, .aload_n 0, 0, 0), (8, .getfield 18, 0, 300), (11, .aload_n 0, 0, 0), (12, .getfield 9, 0, 302), (15, .arraylength, 0, 0)],
  [(16, .if_icmp .ge 45, 0, 61), (19, .aload_n 0, 0, 0), (20, .getfield 18, 0, 300), (23, .aload_n 0, 0, 0), (24, .getfield 15, 0, 303), (27, .arraylength, 0, 0), (28, .if_icmp .ge 33, 0, 61), (31, .aload_n 0, 0, 0)],
  [(32, .getfield 9, 0, 302), (35, .aload_n 0, 0, 0), (36, .getfield 18, 0, 300), (39, .iload_n 1, 0, 0), (40, .iastore, 0, 0), (41, .aload_n 0, 0, 0), (42, .getfield 15, 0, 303), (45, .aload_n 0, 0, 0), (46, .getfield 18, 0, 300)],
  [(49, .iload_n 2, 0, 0), (50, .iastore, 0, 0), (51, .aload_n 0, 0, 0), (52, .dup, 0, 0), (53, .getfield 18, 0, 300), (56, .iconst 1, 1, 0), (57, .iadd, 0, 0), (58, .putfield 18, 0, 300), (61, .return_, 0, 0)]]
def qp_k44 : List (List (Nat × Instr × Int32 × Nat)) := [
  [(0, .aload_n 0, 0, 0), (1, .aload_n 0, 0, 0), (2, .getfield 18, 0, 1), (5, .iload_n 1, 0, 0), (6, .invokevirtual 98, 0, 180), (9, .istore_n 2, 0, 0), (10, .iload_n 2, 0, 0), (11, .ifCond .eq 5, 0, 16), (14, .iload_n 2, 0, 0), (15, .ireturn, 0, 0)],
  [(16, .aload_n 0, 0, 0), (17, .getfield 29, 0, 3), (20, .iload_n 1, 0, 0), (21, .invokevirtual 131, 0, 360), (24, .bipush (-9), (-9), 0), (26, .if_icmp .eq 6, 0, 32), (29, .bipush (-4), (-4), 0), (31, .ireturn, 0, 0)],
  [(32, .aload_n 0, 0, 0), (33, .getfield 36, 0, 4), (36, .getfield 134, 0, 400), (39, .aload_n 0, 0, 0), (40, .getfield 29, 0, 3), (43, .getfield 138, 0, 200), (46, .invokevirtual 139, 0, 450)],
  [(49, .aload_n 0, 0, 0), (50, .getfield 36, 0, 4), (53, .invokevirtual 145, 0, 480), (56, .iconst 0, 0, 0), (57, .istore_n 3, 0, 0), (58, .iload_n 3, 0, 0), (59, .iconst 3, 3, 0), (60, .if_icmp .ge 17, 0, 77), (63, .aload_n 0, 0, 0)],
  [(64, .getfield 21, 0, 2), (67, .iload_n 3, 0, 0), (68, .invokevirtual 102, 0, 270), (71, .iinc 3 1, 1, 0), (74, .goto (-16), 0, 58), (77, .aload_n 0, 0, 0), (78, .getfield 36, 0, 4)],
  [(81, .getfield 134, 0, 400), (84, .getfield 148, 0, 300), (87, .ireturn, 0, 0)]]
def qp_k45 : List (List (Nat × Instr × Int32 × Nat)) := [
  [(0, .aload_n 0, 0, 0), (1, .invokevirtual 25, 0, 370), (4, .aload_n 0, 0, 0), (5, .aload_n 1, 0, 0), (6, .getfield 22, 0, 301), (9, .putfield 22, 0, 301), (12, .iconst 0, 0, 0), (13, .istore_n 2, 0, 0), (14, .iload_n 2, 0, 0), (15, .aload_n 1, 0, 0)],
  [(16, .getfield 18, 0, 300), (19, .if_icmp .ge 23, 0, 42), (22, .aload_n 0, 0, 0), (23, .aload_n 1, 0, 0), (24, .iload_n 2, 0, 0), (25, .invokevirtual 28, 0, 460), (28, .aload_n 1, 0, 0), (29, .iload_n 2, 0, 0), (30, .invokevirtual 32, 0, 470)],
  [(33, .invokevirtual 35, 0, 430), (36, .iinc 2 1, 1, 0), (39, .goto (-25), 0, 14), (42, .return_, 0, 0)]]
def qp_k46 : List (List (Nat × Instr × Int32 × Nat)) := [
  [(0, .iload_n 1, 0, 0), (1, .ifCond .lt 21, 0, 22), (4, .iload_n 1, 0, 0), (5, .aload_n 0, 0, 0), (6, .getfield 9, 0, 302), (9, .arraylength, 0, 0), (10, .if_icmp .ge 12, 0, 22), (13, .aload_n 0, 0, 0), (14, .getfield 9, 0, 302)],
  [(17, .iload_n 1, 0, 0), (18, .iaload, 0, 0), (19, .goto 4, 0, 23), (22, .iconst 0, 0, 0), (23, .ireturn, 0, 0)]]
def qp_k47 : List (List (Nat × Instr × Int32 × Nat)) := [
  [(0, .iload_n 1, 0, 0), (1, .ifCond .lt 21, 0, 22), (4, .iload_n 1, 0, 0), (5, .aload_n 0, 0, 0), (6, .getfield 15, 0, 303), (9, .arraylength, 0, 0), (10, .if_icmp .ge 12, 0, 22), (13, .aload_n 0, 0, 0), (14, .getfield 15, 0, 303)],
  [(17, .iload_n 1, 0, 0), (18, .iaload, 0, 0), (19, .goto 4, 0, 23), (22, .iconst 0, 0, 0), (23, .ireturn, 0, 0)]]
def qp_k48 : List (List (Nat × Instr × Int32 × Nat)) := [
  [(0, .aload_n 0, 0, 0), (1, .aload_n 0, 0, 0), (2, .getfield 12, 0, 400), (5, .getfield 34, 0, 300), (8, .invokestatic 38, 0, 491), (11, .putfield 44, 0, 402), (14, .aload_n 0, 0, 0), (15, .aload_n 0, 0, 0)],
  [(16, .getfield 12, 0, 400), (19, .getfield 47, 0, 301), (22, .putfield 50, 0, 403), (25, .aload_n 0, 0, 0), (26, .iconst 0, 0, 0), (27, .putfield 51, 0, 404), (30, .aload_n 0, 0, 0), (31, .iconst 0, 0, 0)],
  [(32, .putfield 54, 0, 405), (35, .return_, 0, 0)]]
def qp_k49 : List (List (Nat × Instr × Int32 × Nat)) := [
  [(0, .iconst 0, 0, 0), (1, .istore_n 1, 0, 0), (2, .iconst 0, 0, 0), (3, .istore_n 2, 0, 0), (4, .iload_n 2, 0, 0), (5, .iload_n 0, 0, 0), (6, .if_icmp .ge 16, 0, 22), (9, .iload_n 1, 0, 0), (10, .iload_n 2, 0, 0), (11, .iload_n 2, 0, 0), (12, .invokestatic 7, 0, 501), (15, .istore_n 1, 0, 0)],
  [(16, .iinc 2 1, 1, 0), (19, .goto (-15), 0, 4), (22, .iload_n 1, 0, 0), (23, .ireturn, 0, 0)]]
def qp_k50 : List (List (Nat × Instr × Int32 × Nat)) := [
  [(0, .iload_n 0, 0, 0), (1, .iload_n 2, 0, 0), (2, .iconst 3, 3, 0), (3, .iload_n 1, 0, 0), (4, .imul, 0, 0), (5, .ishl, 0, 0), (6, .ior, 0, 0), (7, .ireturn, 0, 0)]]
def qp_k51 : List (List (Nat × Instr × Int32 × Nat)) := [
  [(0, .aload_n 0, 0, 0), (1, .getfield 36, 0, 4), (4, .getfield 134, 0, 400), (7, .iload_n 1, 0, 0), (8, .invokevirtual 152, 0, 520), (11, .ifCond .eq 13, 0, 24), (14, .iload_n 2, 0, 0), (15, .ifCond .lt 9, 0, 24)],
  [(18, .iload_n 2, 0, 0), (19, .bipush 6, 6, 0), (21, .if_icmp .le 5, 0, 26), (24, .iconst (-1), (-1), 0), (25, .ireturn, 0, 0), (26, .aload_n 0, 0, 0), (27, .getfield 36, 0, 4), (30, .aload_n 0, 0, 0), (31, .getfield 36, 0, 4)],
  [(34, .getfield 153, 0, 402), (37, .invokevirtual 156, 0, 530), (40, .aload_n 0, 0, 0), (41, .aload_n 0, 0, 0), (42, .iload_n 1, 0, 0), (43, .iload_n 2, 0, 0), (44, .invokevirtual 159, 0, 600), (47, .invokevirtual 94, 0, 240)],
  [(50, .ireturn, 0, 0)]]
def qp_k52 : List (List (Nat × Instr × Int32 × Nat)) := [
  [(0, .iload_n 1, 0, 0), (1, .ifCond .lt 15, 0, 16), (4, .iload_n 1, 0, 0), (5, .aload_n 0, 0, 0), (6, .getfield 18, 0, 300), (9, .if_icmp .ge 7, 0, 16), (12, .iconst 1, 1, 0), (13, .goto 4, 0, 17)],
  [(16, .iconst 0, 0, 0), (17, .ireturn, 0, 0)]]
def qp_k53 : List (List (Nat × Instr × Int32 × Nat)) := [
  [(0, .aload_n 0, 0, 0), (1, .getfield 23, 0, 401), (4, .iload_n 1, 0, 0), (5, .aload_n 0, 0, 0), (6, .getfield 12, 0, 400), (9, .getfield 34, 0, 300), (12, .aload_n 0, 0, 0), (13, .getfield 50, 0, 403)],
  [(16, .invokevirtual 57, 0, 540), (19, .return_, 0, 0)]]
def qp_k54 : List (List (Nat × Instr × Int32 × Nat)) := [
  [(0, .aload_n 0, 0, 0), (1, .iload_n 3, 0, 0), (2, .putfield 28, 0, 503), (5, .aload_n 0, 0, 0), (6, .iload_n 3, 0, 0), (7, .putfield 32, 0, 504), (10, .aload_n 0, 0, 0), (11, .iconst 0, 0, 0), (12, .putfield 35, 0, 505), (15, .aload_n 0, 0, 0)],
  [(16, .iconst 0, 0, 0), (17, .putfield 38, 0, 500), (20, .aload_n 0, 0, 0), (21, .iconst 0, 0, 0), (22, .putfield 41, 0, 501), (25, .iconst 0, 0, 0), (26, .istore 4, 0, 0), (28, .iload 4, 0, 0), (30, .iconst 2, 2, 0), (31, .if_icmp .ge 86, 0, 117)],
  [(34, .iconst 0, 0, 0), (35, .istore 5, 0, 0), (37, .iload 5, 0, 0), (39, .iload_n 2, 0, 0), (40, .if_icmp .ge 71, 0, 111), (43, .iload_n 1, 0, 0), (44, .iload 5, 0, 0), (46, .invokestatic 44, 0, 551)],
  [(49, .istore 6, 0, 0), (51, .aload_n 0, 0, 0), (52, .getfield 24, 0, 502), (55, .iload 6, 0, 0), (57, .invokevirtual 50, 0, 460), (60, .istore 7, 0, 0), (62, .iload 7, 0, 0)],
  [(64, .iconst 1, 1, 0), (65, .invokestatic 56, 0, 561), (68, .iload 4, 0, 0), (70, .ifCond .ne 7, 0, 77), (73, .iconst 1, 1, 0), (74, .goto 4, 0, 78), (77, .iconst 0, 0, 0), (78, .if_icmp .ne 27, 0, 105)],
  [(81, .aload_n 0, 0, 0), (82, .iload 6, 0, 0), (84, .iload 7, 0, 0), (86, .iload 5, 0, 0), (88, .iload_n 2, 0, 0), (89, .iconst 1, 1, 0), (90, .isub, 0, 0), (91, .if_icmp .ne 7, 0, 98), (94, .iconst 1, 1, 0), (95, .goto 4, 0, 99)],
  [(98, .iconst 0, 0, 0), (99, .invokestatic 60, 0, 571), (102, .invokevirtual 64, 0, 580), (105, .iinc 5 1, 1, 0), (108, .goto (-71), 0, 37), (111, .iinc 4 1, 1, 0)],
  [(114, .goto (-86), 0, 28), (117, .return_, 0, 0)]]
def qp_k55 : List (List (Nat × Instr × Int32 × Nat)) := [
  [(0, .iload_n 0, 0, 0), (1, .iconst 3, 3, 0), (2, .iload_n 1, 0, 0), (3, .imul, 0, 0), (4, .ishr, 0, 0), (5, .bipush 7, 7, 0), (7, .iand, 0, 0), (8, .ireturn, 0, 0)]]
def qp_k56 : List (List (Nat × Instr × Int32 × Nat)) := [
  [(0, .iload_n 0, 0, 0), (1, .iload_n 1, 0, 0), (2, .if_icmp .eq 23, 0, 25), (5, .iload_n 0, 0, 0), (6, .iconst 4, 4, 0), (7, .if_icmp .ne 8, 0, 15), (10, .iload_n 1, 0, 0), (11, .iconst 1, 1, 0), (12, .if_icmp .eq 13, 0, 25), (15, .iload_n 0, 0, 0)],
  [(16, .iconst 5, 5, 0), (17, .if_icmp .ne 12, 0, 29), (20, .iload_n 1, 0, 0), (21, .iconst 2, 2, 0), (22, .if_icmp .ne 7, 0, 29), (25, .iconst 1, 1, 0), (26, .goto 4, 0, 30), (29, .iconst 0, 0, 0), (30, .ireturn, 0, 0)]]
def qp_k57 : List (List (Nat × Instr × Int32 × Nat)) := [
  [(0, .iload_n 0, 0, 0), (1, .tableswitch 47 2 5 #[31, 33, 35, 37], 0, 31)],
  [],
  [(32, .iconst 0, 0, 0), (33, .ireturn, 0, 0), (34, .iconst 2, 2, 0), (35, .ireturn, 0, 0), (36, .iconst 3, 3, 0), (37, .ireturn, 0, 0), (38, .iload_n 1, 0, 0), (39, .ifCond .eq 7, 0, 46), (42, .iconst 1, 1, 0), (43, .goto 4, 0, 47), (46, .iconst 0, 0, 0), (47, .ireturn, 0, 0)],
  [(48, .iconst 1, 1, 0), (49, .ireturn, 0, 0)]]
def qp_k58 : List (List (Nat × Instr × Int32 × Nat)) := [
  [(0, .iload_n 1, 0, 0), (1, .ifCond .lt 9, 0, 10), (4, .iload_n 1, 0, 0), (5, .bipush 6, 6, 0), (7, .if_icmp .lt 4, 0, 11), (10, .return_, 0, 0), (11, .aload_n 0, 0, 0), (12, .getfield 35, 0, 505), (15, .aload_n 0, 0, 0)],
  [(16, .getfield 24, 0, 502), (19, .iload_n 1, 0, 0), (20, .invokevirtual 68, 0, 470), (23, .if_icmp .le 7, 0, 30), (26, .iconst 1, 1, 0), (27, .goto 4, 0, 31), (30, .iconst 0, 0, 0), (31, .istore_n 3, 0, 0)],
  [(32, .iload_n 3, 0, 0), (33, .ifCond .eq 7, 0, 40), (36, .iconst 0, 0, 0), (37, .goto 11, 0, 48), (40, .iload_n 2, 0, 0), (41, .aload_n 0, 0, 0), (42, .getfield 32, 0, 504), (45, .invokestatic 71, 0, 591)],
  [(48, .istore 4, 0, 0), (50, .aload_n 0, 0, 0), (51, .getfield 9, 0, 506), (54, .iload_n 1, 0, 0), (55, .iload_n 2, 0, 0), (56, .iastore, 0, 0), (57, .aload_n 0, 0, 0), (58, .getfield 15, 0, 507), (61, .iload_n 1, 0, 0), (62, .iload 4, 0, 0)],
  [(64, .iastore, 0, 0), (65, .aload_n 0, 0, 0), (66, .getfield 18, 0, 508), (69, .iload_n 1, 0, 0), (70, .aload_n 0, 0, 0), (71, .getfield 35, 0, 505), (74, .iastore, 0, 0), (75, .aload_n 0, 0, 0), (76, .getfield 21, 0, 509), (79, .iload_n 1, 0, 0)],
  [(80, .aload_n 0, 0, 0), (81, .getfield 32, 0, 504), (84, .iastore, 0, 0), (85, .iload_n 3, 0, 0), (86, .ifCond .eq 15, 0, 101), (89, .aload_n 0, 0, 0), (90, .dup, 0, 0), (91, .getfield 38, 0, 500), (94, .iconst 1, 1, 0), (95, .iload_n 1, 0, 0)],
  [(96, .ishl, 0, 0), (97, .ior, 0, 0), (98, .putfield 38, 0, 500), (101, .iload_n 2, 0, 0), (102, .ifCond .le 21, 0, 123), (105, .iload 4, 0, 0), (107, .iload_n 2, 0, 0), (108, .if_icmp .ne 15, 0, 123), (111, .aload_n 0, 0, 0)],
  [(112, .dup, 0, 0), (113, .getfield 41, 0, 501), (116, .iconst 1, 1, 0), (117, .iload_n 1, 0, 0), (118, .ishl, 0, 0), (119, .ior, 0, 0), (120, .putfield 41, 0, 501), (123, .aload_n 0, 0, 0), (124, .dup, 0, 0), (125, .getfield 32, 0, 504)],
  [(128, .iload 4, 0, 0), (130, .isub, 0, 0), (131, .putfield 32, 0, 504), (134, .aload_n 0, 0, 0), (135, .dup, 0, 0), (136, .getfield 35, 0, 505), (139, .iconst 1, 1, 0), (140, .iadd, 0, 0), (141, .putfield 35, 0, 505)],
  [(144, .return_, 0, 0)]]
def qp_k59 : List (List (Nat × Instr × Int32 × Nat)) := [
  [(0, .iload_n 0, 0, 0), (1, .iload_n 1, 0, 0), (2, .if_icmp .gt 7, 0, 9), (5, .iload_n 0, 0, 0), (6, .goto 4, 0, 10), (9, .iload_n 1, 0, 0), (10, .ireturn, 0, 0)]]
def qp_k60 : List (List (Nat × Instr × Int32 × Nat)) := [
  [(0, .iload_n 2, 0, 0), (1, .tableswitch 108 0 5 #[39, 51, 63, 72, 84, 96], 0, 39)],
  [],
  [(40, .aload_n 0, 0, 0), (41, .getfield 36, 0, 4), (44, .getfield 134, 0, 400), (47, .iload_n 1, 0, 0)],
  [(48, .invokevirtual 162, 0, 460), (51, .ireturn, 0, 0), (52, .aload_n 0, 0, 0), (53, .getfield 36, 0, 4), (56, .getfield 134, 0, 400), (59, .iload_n 1, 0, 0), (60, .invokevirtual 319, 0, 470), (63, .ireturn, 0, 0)],
  [(64, .aload_n 0, 0, 0), (65, .getfield 36, 0, 4), (68, .iload_n 1, 0, 0), (69, .invokevirtual 187, 0, 610), (72, .ireturn, 0, 0), (73, .aload_n 0, 0, 0), (74, .getfield 36, 0, 4), (77, .getfield 172, 0, 401)],
  [(80, .iload_n 1, 0, 0), (81, .invokevirtual 181, 0, 630), (84, .ireturn, 0, 0), (85, .aload_n 0, 0, 0), (86, .getfield 36, 0, 4), (89, .getfield 172, 0, 401), (92, .iload_n 1, 0, 0), (93, .invokevirtual 184, 0, 640)],
  [(96, .ireturn, 0, 0), (97, .aload_n 0, 0, 0), (98, .getfield 36, 0, 4), (101, .getfield 172, 0, 401), (104, .iload_n 1, 0, 0), (105, .invokevirtual 322, 0, 650), (108, .ireturn, 0, 0), (109, .aload_n 0, 0, 0), (110, .getfield 36, 0, 4)],
  [(113, .iload_n 1, 0, 0), (114, .invokevirtual 325, 0, 660), (117, .ireturn, 0, 0)]]
def qp_k61 : List (List (Nat × Instr × Int32 × Nat)) := [
  [(0, .aload_n 0, 0, 0), (1, .getfield 44, 0, 402), (4, .aload_n 0, 0, 0), (5, .getfield 12, 0, 400), (8, .getfield 34, 0, 300), (11, .iload_n 1, 0, 0), (12, .invokestatic 61, 0, 621), (15, .ireturn, 0, 0)]]
def qp_k62 : List (List (Nat × Instr × Int32 × Nat)) := [
  [(0, .iconst 0, 0, 0), (1, .istore_n 3, 0, 0), (2, .iload_n 3, 0, 0), (3, .iload_n 1, 0, 0), (4, .if_icmp .ge 18, 0, 22), (7, .iload_n 0, 0, 0), (8, .iload_n 3, 0, 0), (9, .invokestatic 13, 0, 551), (12, .iload_n 2, 0, 0), (13, .if_icmp .eq 9, 0, 22)],
  [(16, .iinc 3 1, 1, 0), (19, .goto (-17), 0, 2), (22, .iload_n 3, 0, 0), (23, .ireturn, 0, 0)]]
def qp_k63 : List (List (Nat × Instr × Int32 × Nat)) := [
  [(0, .iload_n 1, 0, 0), (1, .ifCond .lt 21, 0, 22), (4, .iload_n 1, 0, 0), (5, .aload_n 0, 0, 0), (6, .getfield 9, 0, 506), (9, .arraylength, 0, 0), (10, .if_icmp .ge 12, 0, 22), (13, .aload_n 0, 0, 0), (14, .getfield 9, 0, 506)],
  [(17, .iload_n 1, 0, 0), (18, .iaload, 0, 0), (19, .goto 4, 0, 23), (22, .iconst 0, 0, 0), (23, .ireturn, 0, 0)]]
def qp_k64 : List (List (Nat × Instr × Int32 × Nat)) := [
  [(0, .iload_n 1, 0, 0), (1, .ifCond .lt 21, 0, 22), (4, .iload_n 1, 0, 0), (5, .aload_n 0, 0, 0), (6, .getfield 15, 0, 507), (9, .arraylength, 0, 0), (10, .if_icmp .ge 12, 0, 22), (13, .aload_n 0, 0, 0), (14, .getfield 15, 0, 507)],
  [(17, .iload_n 1, 0, 0), (18, .iaload, 0, 0), (19, .goto 4, 0, 23), (22, .iconst 0, 0, 0), (23, .ireturn, 0, 0)]]
def qp_k65 : List (List (Nat × Instr × Int32 × Nat)) := [
  [(0, .iload_n 1, 0, 0), (1, .ifCond .lt 21, 0, 22), (4, .iload_n 1, 0, 0), (5, .aload_n 0, 0, 0), (6, .getfield 18, 0, 508), (9, .arraylength, 0, 0), (10, .if_icmp .ge 12, 0, 22), (13, .aload_n 0, 0, 0), (14, .getfield 18, 0, 508)],
  [(17, .iload_n 1, 0, 0), (18, .iaload, 0, 0), (19, .goto 4, 0, 23), (22, .iconst 0, 0, 0), (23, .ireturn, 0, 0)]]
def qp_k66 : List (List (Nat × Instr × Int32 × Nat)) := [
  [(0, .iconst 0, 0, 0), (1, .istore_n 2, 0, 0), (2, .iconst 0, 0, 0), (3, .istore_n 3, 0, 0), (4, .iload_n 3, 0, 0), (5, .aload_n 0, 0, 0), (6, .getfield 12, 0, 400), (9, .getfield 34, 0, 300), (12, .if_icmp .ge 34, 0, 46), (15, .aload_n 0, 0, 0)],
  [(16, .getfield 44, 0, 402), (19, .aload_n 0, 0, 0), (20, .getfield 12, 0, 400), (23, .getfield 34, 0, 300), (26, .iload_n 1, 0, 0), (27, .iload_n 3, 0, 0), (28, .invokestatic 83, 0, 671), (31, .ifCond .eq 9, 0, 40)],
  [(34, .iload_n 2, 0, 0), (35, .iconst 1, 1, 0), (36, .iload_n 3, 0, 0), (37, .ishl, 0, 0), (38, .ior, 0, 0), (39, .istore_n 2, 0, 0), (40, .iinc 3 1, 1, 0), (43, .goto (-39), 0, 4), (46, .iload_n 2, 0, 0), (47, .ireturn, 0, 0)]]
def qp_k67 : List (List (Nat × Instr × Int32 × Nat)) := [
  [(0, .iload_n 0, 0, 0), (1, .iload_n 1, 0, 0), (2, .iload_n 2, 0, 0), (3, .invokestatic 17, 0, 621), (6, .iload_n 0, 0, 0), (7, .iload_n 1, 0, 0), (8, .iload_n 3, 0, 0), (9, .invokestatic 17, 0, 621), (12, .isub, 0, 0), (13, .invokestatic 26, 0, 681)],
  [(16, .iconst 1, 1, 0), (17, .if_icmp .ne 7, 0, 24), (20, .iconst 1, 1, 0), (21, .goto 4, 0, 25), (24, .iconst 0, 0, 0), (25, .ireturn, 0, 0)]]
def qp_k68 : List (List (Nat × Instr × Int32 × Nat)) := [
  [(0, .iload_n 0, 0, 0), (1, .ifCond .ge 8, 0, 9), (4, .iload_n 0, 0, 0), (5, .ineg, 0, 0), (6, .goto 4, 0, 10), (9, .iload_n 0, 0, 0), (10, .ireturn, 0, 0)]]
def qp_k69 : List (List (Nat × Instr × Int32 × Nat)) := [
  [(0, .aload_n 0, 0, 0), (1, .getfield 36, 0, 4), (4, .getfield 134, 0, 400), (7, .iload_n 1, 0, 0), (8, .invokevirtual 152, 0, 520), (11, .ifCond .eq 12, 0, 23), (14, .iload_n 2, 0, 0), (15, .ifCond .le 8, 0, 23)],
  [(18, .iload_n 2, 0, 0), (19, .iconst 5, 5, 0), (20, .if_icmp .le 5, 0, 25), (23, .iconst (-1), (-1), 0), (24, .ireturn, 0, 0), (25, .aload_n 0, 0, 0), (26, .getfield 36, 0, 4), (29, .getfield 134, 0, 400)],
  [(32, .iload_n 1, 0, 0), (33, .invokevirtual 162, 0, 460), (36, .iload_n 2, 0, 0), (37, .invokestatic 165, 0, 561), (40, .ifCond .ne 9, 0, 49), (43, .aload_n 0, 0, 0), (44, .iconst 3, 3, 0), (45, .invokevirtual 110, 0, 140)],
  [(48, .ireturn, 0, 0), (49, .aload_n 0, 0, 0), (50, .getfield 36, 0, 4), (53, .aload_n 0, 0, 0), (54, .getfield 36, 0, 4), (57, .getfield 153, 0, 402), (60, .invokevirtual 156, 0, 530), (63, .iload_n 2, 0, 0)],
  [(64, .tableswitch 77 1 4 #[32, 77, 41, 53], 0, 32)],
  [],
  [(96, .aload_n 0, 0, 0), (97, .getfield 36, 0, 4), (100, .iload_n 1, 0, 0), (101, .invokevirtual 169, 0, 700), (104, .ireturn, 0, 0), (105, .aload_n 0, 0, 0), (106, .getfield 36, 0, 4), (109, .getfield 172, 0, 401)],
  [(112, .iload_n 1, 0, 0), (113, .invokevirtual 176, 0, 710), (116, .ireturn, 0, 0), (117, .aload_n 0, 0, 0), (118, .getfield 36, 0, 4), (121, .getfield 172, 0, 401), (124, .iload_n 1, 0, 0), (125, .invokevirtual 181, 0, 630)],
  [(128, .aload_n 0, 0, 0), (129, .getfield 36, 0, 4), (132, .getfield 172, 0, 401), (135, .iload_n 1, 0, 0), (136, .invokevirtual 184, 0, 640), (139, .isub, 0, 0), (140, .ireturn, 0, 0), (141, .aload_n 0, 0, 0), (142, .getfield 36, 0, 4)],
  [(145, .getfield 134, 0, 400), (148, .getfield 148, 0, 300), (151, .iconst 1, 1, 0), (152, .isub, 0, 0), (153, .aload_n 0, 0, 0), (154, .getfield 36, 0, 4), (157, .iload_n 1, 0, 0), (158, .invokevirtual 187, 0, 610)],
  [(161, .isub, 0, 0), (162, .ireturn, 0, 0)]]
def qp_k70 : List (List (Nat × Instr × Int32 × Nat)) := [
  [(0, .iconst 0, 0, 0), (1, .istore_n 2, 0, 0), (2, .iconst 0, 0, 0), (3, .istore_n 3, 0, 0), (4, .iload_n 3, 0, 0), (5, .aload_n 0, 0, 0), (6, .iload_n 1, 0, 0), (7, .invokevirtual 74, 0, 610), (10, .if_icmp .ge 38, 0, 48), (13, .aload_n 0, 0, 0), (14, .getfield 23, 0, 401)],
  [(17, .aload_n 0, 0, 0), (18, .getfield 44, 0, 402), (21, .iload_n 3, 0, 0), (22, .invokestatic 76, 0, 551), (25, .invokevirtual 80, 0, 650), (28, .aload_n 0, 0, 0), (29, .getfield 23, 0, 401)],
  [(32, .iload_n 1, 0, 0), (33, .invokevirtual 80, 0, 650), (36, .if_icmp .le 6, 0, 42), (39, .iinc 2 1, 1, 0), (42, .iinc 3 1, 1, 0), (45, .goto (-41), 0, 4)],
  [(48, .iload_n 2, 0, 0), (49, .ireturn, 0, 0)]]
def qp_k71 : List (List (Nat × Instr × Int32 × Nat)) := [
  [(0, .iload_n 1, 0, 0), (1, .ifCond .lt 21, 0, 22), (4, .iload_n 1, 0, 0), (5, .aload_n 0, 0, 0), (6, .getfield 21, 0, 509), (9, .arraylength, 0, 0), (10, .if_icmp .ge 12, 0, 22), (13, .aload_n 0, 0, 0), (14, .getfield 21, 0, 509)],
  [(17, .iload_n 1, 0, 0), (18, .iaload, 0, 0), (19, .goto 4, 0, 23), (22, .iconst 0, 0, 0), (23, .ireturn, 0, 0)]]
def qp_k72 : List (List (Nat × Instr × Int32 × Nat)) := [
  [(0, .aload_n 0, 0, 0), (1, .getfield 36, 0, 4), (4, .getfield 134, 0, 400), (7, .iload_n 1, 0, 0), (8, .invokevirtual 152, 0, 520), (11, .ifCond .eq 17, 0, 28), (14, .aload_n 0, 0, 0), (15, .getfield 36, 0, 4)],
  [(18, .getfield 134, 0, 400), (21, .iload_n 2, 0, 0), (22, .invokevirtual 152, 0, 520), (25, .ifCond .ne 5, 0, 30), (28, .iconst (-1), (-1), 0), (29, .ireturn, 0, 0), (30, .aload_n 0, 0, 0), (31, .getfield 36, 0, 4)],
  [(34, .getfield 190, 0, 404), (37, .istore_n 3, 0, 0), (38, .aload_n 0, 0, 0), (39, .getfield 36, 0, 4), (42, .bipush 8, 8, 0), (44, .iload_n 1, 0, 0), (45, .imul, 0, 0), (46, .iload_n 2, 0, 0), (47, .iadd, 0, 0)],
  [(48, .invokevirtual 193, 0, 730), (51, .ifCond .ne 6, 0, 57), (54, .bipush (-4), (-4), 0), (56, .ireturn, 0, 0), (57, .aload_n 0, 0, 0), (58, .getfield 36, 0, 4), (61, .getfield 196, 0, 405)],
  [(64, .bipush 40, 40, 0), (66, .if_icmp .lt 6, 0, 72), (69, .bipush (-2), (-2), 0), (71, .ireturn, 0, 0), (72, .aload_n 0, 0, 0), (73, .getfield 36, 0, 4), (76, .iconst 1, 1, 0), (77, .bipush 8, 8, 0), (79, .iload_n 1, 0, 0)],
  [(80, .imul, 0, 0), (81, .iload_n 2, 0, 0), (82, .iadd, 0, 0), (83, .invokevirtual 199, 0, 740), (86, .iload_n 3, 0, 0), (87, .ireturn, 0, 0)]]
def qp_k73 : List (List (Nat × Instr × Int32 × Nat)) := [
  [(0, .aload_n 0, 0, 0), (1, .getfield 51, 0, 404), (4, .bipush 12, 12, 0), (6, .if_icmp .ge 22, 0, 28), (9, .aload_n 0, 0, 0), (10, .iload_n 1, 0, 0), (11, .bipush 8, 8, 0), (13, .idiv, 0, 0), (14, .invokevirtual 74, 0, 610)],
  [(17, .iload_n 1, 0, 0), (18, .bipush 8, 8, 0), (20, .irem, 0, 0), (21, .if_icmp .eq 7, 0, 28), (24, .iconst 1, 1, 0), (25, .goto 4, 0, 29), (28, .iconst 0, 0, 0), (29, .ireturn, 0, 0)]]
def qp_k74 : List (List (Nat × Instr × Int32 × Nat)) := [
  [(0, .iload_n 1, 0, 0), (1, .tableswitch 53 1 3 #[27, 35, 45], 0, 27)],
  [(28, .aload_n 0, 0, 0), (29, .iload_n 2, 0, 0), (30, .invokevirtual 87, 0, 750)],
  [(33, .goto 21, 0, 54), (36, .aload_n 0, 0, 0), (37, .iload_n 2, 0, 0), (38, .iconst 1, 1, 0), (39, .invokevirtual 90, 0, 790), (42, .pop, 0, 0), (43, .goto 11, 0, 54), (46, .aload_n 0, 0, 0), (47, .iload_n 2, 0, 0)],
  [(48, .putfield 50, 0, 403), (51, .goto 3, 0, 54), (54, .aload_n 0, 0, 0), (55, .getfield 54, 0, 405), (58, .ifCond .lt 40, 0, 98), (61, .aload_n 0, 0, 0), (62, .getfield 54, 0, 405)],
  [(65, .aload_n 0, 0, 0), (66, .getfield 31, 0, 407), (69, .arraylength, 0, 0), (70, .if_icmp .ge 28, 0, 98), (73, .aload_n 0, 0, 0), (74, .getfield 31, 0, 407), (77, .aload_n 0, 0, 0), (78, .getfield 54, 0, 405)],
  [(81, .bipush 64, 64, 0), (83, .iload_n 1, 0, 0), (84, .imul, 0, 0), (85, .iload_n 2, 0, 0), (86, .iadd, 0, 0), (87, .iastore, 0, 0), (88, .aload_n 0, 0, 0), (89, .dup, 0, 0), (90, .getfield 54, 0, 405), (93, .iconst 1, 1, 0), (94, .iadd, 0, 0), (95, .putfield 54, 0, 405)],
  [(98, .return_, 0, 0)]]
def qp_k75 : List (List (Nat × Instr × Int32 × Nat)) := [
  [(0, .aload_n 0, 0, 0), (1, .getfield 51, 0, 404), (4, .ifCond .lt 54, 0, 58), (7, .aload_n 0, 0, 0), (8, .getfield 51, 0, 404), (11, .aload_n 0, 0, 0), (12, .getfield 27, 0, 406), (15, .arraylength, 0, 0)],
  [(16, .if_icmp .ge 42, 0, 58), (19, .aload_n 0, 0, 0), (20, .getfield 27, 0, 406), (23, .aload_n 0, 0, 0), (24, .getfield 51, 0, 404), (27, .iload_n 1, 0, 0), (28, .iastore, 0, 0), (29, .aload_n 0, 0, 0), (30, .dup, 0, 0), (31, .getfield 51, 0, 404)],
  [(34, .iconst 1, 1, 0), (35, .iadd, 0, 0), (36, .putfield 51, 0, 404), (39, .aload_n 0, 0, 0), (40, .aload_n 0, 0, 0), (41, .getfield 44, 0, 402), (44, .aload_n 0, 0, 0), (45, .getfield 12, 0, 400)],
  [(48, .getfield 34, 0, 300), (51, .iload_n 1, 0, 0), (52, .invokestatic 65, 0, 761), (55, .putfield 44, 0, 402), (58, .return_, 0, 0)]]
def qp_k76 : List (List (Nat × Instr × Int32 × Nat)) := [
  [(0, .iload_n 2, 0, 0), (1, .bipush 8, 8, 0), (3, .idiv, 0, 0), (4, .istore_n 3, 0, 0), (5, .iload_n 2, 0, 0), (6, .bipush 8, 8, 0), (8, .irem, 0, 0), (9, .istore 4, 0, 0), (11, .iload_n 0, 0, 0), (12, .iload_n 1, 0, 0), (13, .iload_n 3, 0, 0), (14, .invokestatic 17, 0, 621)],
  [(17, .istore 5, 0, 0), (19, .iload 5, 0, 0), (21, .iload_n 1, 0, 0), (22, .if_icmp .ge 9, 0, 31), (25, .iload 4, 0, 0), (27, .iload_n 1, 0, 0), (28, .if_icmp .lt 5, 0, 33), (31, .iload_n 0, 0, 0)],
  [(32, .ireturn, 0, 0), (33, .iload_n 0, 0, 0), (34, .iload 5, 0, 0), (36, .invokestatic 20, 0, 771), (39, .iload_n 0, 0, 0), (40, .iload 5, 0, 0), (42, .iconst 1, 1, 0), (43, .iadd, 0, 0), (44, .invokestatic 23, 0, 781), (47, .iconst 3, 3, 0)],
  [(48, .iload 5, 0, 0), (50, .imul, 0, 0), (51, .ishl, 0, 0), (52, .ior, 0, 0), (53, .istore 6, 0, 0), (55, .iload 6, 0, 0), (57, .iload 4, 0, 0), (59, .invokestatic 20, 0, 771), (62, .iload_n 3, 0, 0), (63, .iconst 3, 3, 0)],
  [(64, .iload 4, 0, 0), (66, .imul, 0, 0), (67, .ishl, 0, 0), (68, .ior, 0, 0), (69, .iload 6, 0, 0), (71, .iload 4, 0, 0), (73, .invokestatic 23, 0, 781), (76, .iconst 3, 3, 0), (77, .iload 4, 0, 0), (79, .iconst 1, 1, 0)],
  [(80, .iadd, 0, 0), (81, .imul, 0, 0), (82, .ishl, 0, 0), (83, .ior, 0, 0), (84, .ireturn, 0, 0)]]
def qp_k77 : List (List (Nat × Instr × Int32 × Nat)) := [
  [(0, .iload_n 0, 0, 0), (1, .iconst 1, 1, 0), (2, .iconst 3, 3, 0), (3, .iload_n 1, 0, 0), (4, .imul, 0, 0), (5, .ishl, 0, 0), (6, .iconst 1, 1, 0), (7, .isub, 0, 0), (8, .iand, 0, 0), (9, .ireturn, 0, 0)]]
def qp_k78 : List (List (Nat × Instr × Int32 × Nat)) := [
  [(0, .iload_n 0, 0, 0), (1, .iconst 3, 3, 0), (2, .iload_n 1, 0, 0), (3, .imul, 0, 0), (4, .ishr, 0, 0), (5, .ireturn, 0, 0)]]
def qp_k79 : List (List (Nat × Instr × Int32 × Nat)) := [
  [(0, .aload_n 0, 0, 0), (1, .getfield 12, 0, 400), (4, .getfield 34, 0, 300), (7, .invokestatic 38, 0, 491), (10, .istore_n 3, 0, 0), (11, .iconst 0, 0, 0), (12, .istore 4, 0, 0), (14, .iconst 0, 0, 0), (15, .istore 5, 0, 0)],
  [(17, .iconst 0, 0, 0), (18, .istore 6, 0, 0), (20, .iload 6, 0, 0), (22, .aload_n 0, 0, 0), (23, .getfield 51, 0, 404), (26, .if_icmp .ge 122, 0, 148), (29, .iload 6, 0, 0), (31, .aload_n 0, 0, 0)],
  [(32, .getfield 27, 0, 406), (35, .arraylength, 0, 0), (36, .if_icmp .ge 112, 0, 148), (39, .aload_n 0, 0, 0), (40, .getfield 27, 0, 406), (43, .iload 6, 0, 0), (45, .iaload, 0, 0), (46, .istore 7, 0, 0)],
  [(48, .iload_n 3, 0, 0), (49, .aload_n 0, 0, 0), (50, .getfield 12, 0, 400), (53, .getfield 34, 0, 300), (56, .iload 7, 0, 0), (58, .bipush 8, 8, 0), (60, .idiv, 0, 0), (61, .invokestatic 61, 0, 621)],
  [(64, .iload 7, 0, 0), (66, .bipush 8, 8, 0), (68, .irem, 0, 0), (69, .if_icmp .ne 7, 0, 76), (72, .iconst 1, 1, 0), (73, .goto 4, 0, 77), (76, .iconst 0, 0, 0), (77, .istore 8, 0, 0), (79, .iload 6, 0, 0)],
  [(81, .iload_n 1, 0, 0), (82, .if_icmp .le 14, 0, 96), (85, .iload 8, 0, 0), (87, .ifCond .eq 9, 0, 96), (90, .iinc 5 1, 1, 0), (93, .goto 49, 0, 142)],
  [(96, .iload 6, 0, 0), (98, .iload_n 1, 0, 0), (99, .if_icmp .eq 43, 0, 142), (102, .iload_n 3, 0, 0), (103, .aload_n 0, 0, 0), (104, .getfield 12, 0, 400), (107, .getfield 34, 0, 300), (110, .iload 7, 0, 0)],
  [(112, .invokestatic 65, 0, 761), (115, .istore_n 3, 0, 0), (116, .iload_n 2, 0, 0), (117, .ifCond .eq 22, 0, 139), (120, .iload 4, 0, 0), (122, .aload_n 0, 0, 0), (123, .getfield 27, 0, 406), (126, .arraylength, 0, 0), (127, .if_icmp .ge 12, 0, 139)],
  [(130, .aload_n 0, 0, 0), (131, .getfield 27, 0, 406), (134, .iload 4, 0, 0), (136, .iload 7, 0, 0), (138, .iastore, 0, 0), (139, .iinc 4 1, 1, 0), (142, .iinc 6 1, 1, 0)],
  [(145, .goto (-125), 0, 20), (148, .iload_n 2, 0, 0), (149, .ifCond .eq 14, 0, 163), (152, .aload_n 0, 0, 0), (153, .iload_n 3, 0, 0), (154, .putfield 44, 0, 402), (157, .aload_n 0, 0, 0), (158, .iload 4, 0, 0)],
  [(160, .putfield 51, 0, 404), (163, .iload 5, 0, 0), (165, .ireturn, 0, 0)]]
def qp_k80 : List (List (Nat × Instr × Int32 × Nat)) := [
  [(0, .aload_n 0, 0, 0), (1, .getfield 36, 0, 4), (4, .iload_n 1, 0, 0), (5, .invokevirtual 202, 0, 810), (8, .ifCond .ne 5, 0, 13), (11, .iconst (-1), (-1), 0), (12, .ireturn, 0, 0), (13, .aload_n 0, 0, 0), (14, .getfield 36, 0, 4)],
  [(17, .getfield 196, 0, 405), (20, .bipush 40, 40, 0), (22, .if_icmp .lt 6, 0, 28), (25, .bipush (-2), (-2), 0), (27, .ireturn, 0, 0), (28, .aload_n 0, 0, 0), (29, .getfield 36, 0, 4)],
  [(32, .iload_n 1, 0, 0), (33, .iconst 0, 0, 0), (34, .invokevirtual 205, 0, 790), (37, .istore_n 2, 0, 0), (38, .aload_n 0, 0, 0), (39, .getfield 36, 0, 4), (42, .iconst 2, 2, 0), (43, .iload_n 1, 0, 0), (44, .invokevirtual 199, 0, 740), (47, .iload_n 2, 0, 0)],
  [(48, .ireturn, 0, 0)]]
def qp_k81 : List (List (Nat × Instr × Int32 × Nat)) := [
  [(0, .iload_n 1, 0, 0), (1, .ifCond .lt 15, 0, 16), (4, .iload_n 1, 0, 0), (5, .aload_n 0, 0, 0), (6, .getfield 51, 0, 404), (9, .if_icmp .ge 7, 0, 16), (12, .iconst 1, 1, 0), (13, .goto 4, 0, 17)],
  [(16, .iconst 0, 0, 0), (17, .ireturn, 0, 0)]]
def qp_k82 : List (List (Nat × Instr × Int32 × Nat)) := [
  [(0, .iload_n 1, 0, 0), (1, .ifCond .lt 9, 0, 10), (4, .iload_n 1, 0, 0), (5, .bipush 20, 20, 0), (7, .if_icmp .le 5, 0, 12), (10, .iconst (-1), (-1), 0), (11, .ireturn, 0, 0), (12, .aload_n 0, 0, 0), (13, .getfield 36, 0, 4)],
  [(16, .getfield 209, 0, 403), (19, .istore_n 2, 0, 0), (20, .aload_n 0, 0, 0), (21, .getfield 36, 0, 4), (24, .getfield 134, 0, 400), (27, .getfield 148, 0, 300), (30, .ifCond .eq 8, 0, 38)],
  [(33, .iload_n 2, 0, 0), (34, .iload_n 1, 0, 0), (35, .if_icmp .ne 6, 0, 41), (38, .bipush (-4), (-4), 0), (40, .ireturn, 0, 0), (41, .aload_n 0, 0, 0), (42, .getfield 36, 0, 4), (45, .getfield 196, 0, 405)],
  [(48, .bipush 40, 40, 0), (50, .if_icmp .lt 6, 0, 56), (53, .bipush (-2), (-2), 0), (55, .ireturn, 0, 0), (56, .aload_n 0, 0, 0), (57, .getfield 36, 0, 4), (60, .iconst 3, 3, 0), (61, .iload_n 1, 0, 0), (62, .invokevirtual 199, 0, 740)],
  [(65, .iload_n 2, 0, 0), (66, .ireturn, 0, 0)]]
def qp_k83 : List (List (Nat × Instr × Int32 × Nat)) := [
  [(0, .iload_n 1, 0, 0), (1, .ifCond .lt 14, 0, 15), (4, .iload_n 1, 0, 0), (5, .aload_n 0, 0, 0), (6, .getfield 36, 0, 4), (9, .getfield 196, 0, 405), (12, .if_icmp .le 5, 0, 17), (15, .iconst (-1), (-1), 0)],
  [(16, .ireturn, 0, 0), (17, .aload_n 0, 0, 0), (18, .getfield 36, 0, 4), (21, .getfield 196, 0, 405), (24, .iload_n 1, 0, 0), (25, .isub, 0, 0), (26, .istore_n 2, 0, 0), (27, .aload_n 0, 0, 0), (28, .getfield 36, 0, 4), (31, .iload_n 1, 0, 0)],
  [(32, .invokevirtual 212, 0, 840), (35, .iload_n 2, 0, 0), (36, .ireturn, 0, 0)]]
def qp_k84 : List (List (Nat × Instr × Int32 × Nat)) := [
  [(0, .aload_n 0, 0, 0), (1, .invokevirtual 94, 0, 480), (4, .iconst 0, 0, 0), (5, .istore_n 2, 0, 0), (6, .iload_n 2, 0, 0), (7, .iload_n 1, 0, 0), (8, .if_icmp .ge 40, 0, 48), (11, .iload_n 2, 0, 0), (12, .aload_n 0, 0, 0), (13, .getfield 31, 0, 407)],
  [(16, .arraylength, 0, 0), (17, .if_icmp .ge 31, 0, 48), (20, .aload_n 0, 0, 0), (21, .aload_n 0, 0, 0), (22, .getfield 31, 0, 407), (25, .iload_n 2, 0, 0), (26, .iaload, 0, 0), (27, .bipush 64, 64, 0), (29, .idiv, 0, 0), (30, .aload_n 0, 0, 0), (31, .getfield 31, 0, 407)],
  [(34, .iload_n 2, 0, 0), (35, .iaload, 0, 0), (36, .bipush 64, 64, 0), (38, .irem, 0, 0), (39, .invokevirtual 97, 0, 740), (42, .iinc 2 1, 1, 0), (45, .goto (-39), 0, 6)],
  [(48, .return_, 0, 0)]]
def qp_k85 : List (List (Nat × Instr × Int32 × Nat)) := [
  [(0, .aload_n 0, 0, 0), (1, .getfield 21, 0, 2), (4, .iload_n 1, 0, 0), (5, .invokevirtual 106, 0, 130), (8, .ifCond .ne 5, 0, 13), (11, .iconst (-1), (-1), 0), (12, .ireturn, 0, 0), (13, .aload_n 0, 0, 0), (14, .getfield 36, 0, 4)],
  [(17, .getfield 134, 0, 400), (20, .getfield 148, 0, 300), (23, .ifCond .ne 6, 0, 29), (26, .bipush (-4), (-4), 0), (28, .ireturn, 0, 0), (29, .aload_n 0, 0, 0), (30, .getfield 21, 0, 2)],
  [(33, .iload_n 1, 0, 0), (34, .aload_n 0, 0, 0), (35, .getfield 36, 0, 4), (38, .getfield 196, 0, 405), (41, .iconst 0, 0, 0), (42, .invokevirtual 215, 0, 150), (45, .iconst 0, 0, 0), (46, .istore_n 2, 0, 0), (47, .iload_n 2, 0, 0)],
  [(48, .aload_n 0, 0, 0), (49, .getfield 36, 0, 4), (52, .getfield 196, 0, 405), (55, .if_icmp .ge 26, 0, 81), (58, .aload_n 0, 0, 0), (59, .getfield 21, 0, 2), (62, .iload_n 1, 0, 0), (63, .iload_n 2, 0, 0)],
  [(64, .aload_n 0, 0, 0), (65, .getfield 36, 0, 4), (68, .iload_n 2, 0, 0), (69, .invokevirtual 218, 0, 860), (72, .invokevirtual 90, 0, 230), (75, .iinc 2 1, 1, 0), (78, .goto (-31), 0, 47)],
  [(81, .aload_n 0, 0, 0), (82, .getfield 36, 0, 4), (85, .getfield 196, 0, 405), (88, .ireturn, 0, 0)]]
def qp_k86 : List (List (Nat × Instr × Int32 × Nat)) := [
  [(0, .iload_n 1, 0, 0), (1, .ifCond .lt 21, 0, 22), (4, .iload_n 1, 0, 0), (5, .aload_n 0, 0, 0), (6, .getfield 31, 0, 407), (9, .arraylength, 0, 0), (10, .if_icmp .ge 12, 0, 22), (13, .aload_n 0, 0, 0), (14, .getfield 31, 0, 407)],
  [(17, .iload_n 1, 0, 0), (18, .iaload, 0, 0), (19, .goto 4, 0, 23), (22, .iconst 0, 0, 0), (23, .ireturn, 0, 0)]]
def qp_k87 : List (List (Nat × Instr × Int32 × Nat)) := [
  [(0, .aload_n 0, 0, 0), (1, .aload_n 0, 0, 0), (2, .getfield 21, 0, 2), (5, .iload_n 1, 0, 0), (6, .invokevirtual 98, 0, 180), (9, .istore_n 2, 0, 0), (10, .iload_n 2, 0, 0), (11, .ifCond .eq 5, 0, 16), (14, .iload_n 2, 0, 0), (15, .ireturn, 0, 0)],
  [(16, .aload_n 0, 0, 0), (17, .getfield 36, 0, 4), (20, .invokevirtual 145, 0, 480), (23, .aload_n 0, 0, 0), (24, .getfield 21, 0, 2), (27, .iload_n 1, 0, 0), (28, .invokevirtual 124, 0, 200), (31, .istore_n 3, 0, 0)],
  [(32, .iconst 0, 0, 0), (33, .istore 4, 0, 0), (35, .iload 4, 0, 0), (37, .iload_n 3, 0, 0), (38, .if_icmp .ge 42, 0, 80), (41, .aload_n 0, 0, 0), (42, .getfield 36, 0, 4), (45, .aload_n 0, 0, 0), (46, .getfield 21, 0, 2)],
  [(49, .iload_n 1, 0, 0), (50, .iload 4, 0, 0), (52, .invokevirtual 86, 0, 220), (55, .bipush 64, 64, 0), (57, .idiv, 0, 0), (58, .aload_n 0, 0, 0), (59, .getfield 21, 0, 2), (62, .iload_n 1, 0, 0), (63, .iload 4, 0, 0)],
  [(65, .invokevirtual 86, 0, 220), (68, .bipush 64, 64, 0), (70, .irem, 0, 0), (71, .invokevirtual 199, 0, 740), (74, .iinc 4 1, 1, 0), (77, .goto (-42), 0, 35)],
  [(80, .iload_n 3, 0, 0), (81, .ireturn, 0, 0)]]
def qp_k88 : List (List (Nat × Instr × Int32 × Nat)) := [
  [(0, .aload_n 0, 0, 0), (1, .getfield 36, 0, 4), (4, .getfield 134, 0, 400), (7, .iload_n 1, 0, 0), (8, .invokevirtual 152, 0, 520), (11, .ifCond .eq 17, 0, 28), (14, .aload_n 0, 0, 0), (15, .getfield 36, 0, 4)],
  [(18, .getfield 153, 0, 402), (21, .iload_n 1, 0, 0), (22, .invokestatic 221, 0, 551), (25, .goto 4, 0, 29), (28, .iconst (-1), (-1), 0), (29, .ireturn, 0, 0)]]
def qp_k89 : List (List (Nat × Instr × Int32 × Nat)) := [
  [(0, .aload_n 0, 0, 0), (1, .getfield 36, 0, 4), (4, .iload_n 1, 0, 0), (5, .invokevirtual 202, 0, 810), (8, .ifCond .eq 12, 0, 20), (11, .iload_n 2, 0, 0), (12, .ifCond .lt 8, 0, 20), (15, .iload_n 2, 0, 0)],
  [(16, .iconst 1, 1, 0), (17, .if_icmp .le 5, 0, 22), (20, .iconst (-1), (-1), 0), (21, .ireturn, 0, 0), (22, .iload_n 2, 0, 0), (23, .ifCond .ne 17, 0, 40), (26, .aload_n 0, 0, 0), (27, .getfield 36, 0, 4), (30, .iload_n 1, 0, 0), (31, .invokevirtual 226, 0, 900)],
  [(34, .bipush 8, 8, 0), (36, .idiv, 0, 0), (37, .goto 14, 0, 51), (40, .aload_n 0, 0, 0), (41, .getfield 36, 0, 4), (44, .iload_n 1, 0, 0), (45, .invokevirtual 226, 0, 900)],
  [(48, .bipush 8, 8, 0), (50, .irem, 0, 0), (51, .ireturn, 0, 0)]]
def qp_k90 : List (List (Nat × Instr × Int32 × Nat)) := [
  [(0, .iload_n 1, 0, 0), (1, .ifCond .lt 21, 0, 22), (4, .iload_n 1, 0, 0), (5, .aload_n 0, 0, 0), (6, .getfield 27, 0, 406), (9, .arraylength, 0, 0), (10, .if_icmp .ge 12, 0, 22), (13, .aload_n 0, 0, 0), (14, .getfield 27, 0, 406)],
  [(17, .iload_n 1, 0, 0), (18, .iaload, 0, 0), (19, .goto 4, 0, 23), (22, .iconst 0, 0, 0), (23, .ireturn, 0, 0)]]
def qp_k91 : List (List (Nat × Instr × Int32 × Nat)) := [
  [(0, .aload_n 0, 0, 0), (1, .getfield 36, 0, 4), (4, .getfield 134, 0, 400), (7, .iload_n 1, 0, 0), (8, .invokevirtual 152, 0, 520), (11, .ifCond .eq 17, 0, 28), (14, .aload_n 0, 0, 0), (15, .getfield 36, 0, 4)],
  [(18, .getfield 134, 0, 400), (21, .iload_n 2, 0, 0), (22, .invokevirtual 152, 0, 520), (25, .ifCond .ne 5, 0, 30), (28, .iconst (-1), (-1), 0), (29, .ireturn, 0, 0), (30, .aload_n 0, 0, 0), (31, .getfield 36, 0, 4)],
  [(34, .getfield 134, 0, 400), (37, .iload_n 1, 0, 0), (38, .invokevirtual 162, 0, 460), (41, .iload_n 2, 0, 0), (42, .aload_n 0, 0, 0), (43, .getfield 36, 0, 4), (46, .getfield 134, 0, 400)],
  [(49, .getfield 148, 0, 300), (52, .iconst 1, 1, 0), (53, .isub, 0, 0), (54, .if_icmp .ne 7, 0, 61), (57, .iconst 1, 1, 0), (58, .goto 4, 0, 62), (61, .iconst 0, 0, 0), (62, .invokestatic 229, 0, 571)],
  [(65, .ireturn, 0, 0)]]
def qp_k92 : List (List (Nat × Instr × Int32 × Nat)) := [
  [(0, .aload_n 0, 0, 0), (1, .getfield 36, 0, 4), (4, .getfield 134, 0, 400), (7, .iload_n 1, 0, 0), (8, .invokevirtual 152, 0, 520), (11, .ifCond .eq 17, 0, 28), (14, .aload_n 0, 0, 0), (15, .getfield 36, 0, 4)],
  [(18, .getfield 134, 0, 400), (21, .iload_n 2, 0, 0), (22, .invokevirtual 152, 0, 520), (25, .ifCond .ne 5, 0, 30), (28, .iconst (-1), (-1), 0), (29, .ireturn, 0, 0), (30, .aload_n 0, 0, 0), (31, .getfield 36, 0, 4)],
  [(34, .iload_n 1, 0, 0), (35, .iload_n 2, 0, 0), (36, .invokevirtual 231, 0, 930), (39, .ireturn, 0, 0)]]
def qp_k93 : List (List (Nat × Instr × Int32 × Nat)) := [
  [(0, .aload_n 0, 0, 0), (1, .aload_n 0, 0, 0), (2, .getfield 44, 0, 402), (5, .aload_n 0, 0, 0), (6, .getfield 12, 0, 400), (9, .getfield 34, 0, 300), (12, .bipush 8, 8, 0), (14, .iload_n 1, 0, 0), (15, .imul, 0, 0)],
  [(16, .iload_n 2, 0, 0), (17, .iadd, 0, 0), (18, .invokestatic 65, 0, 761), (21, .invokevirtual 68, 0, 530), (24, .aload_n 0, 0, 0), (25, .getfield 23, 0, 401), (28, .iload_n 1, 0, 0), (29, .invokevirtual 71, 0, 640)],
  [(32, .ireturn, 0, 0)]]
def qp_k94 : List (List (Nat × Instr × Int32 × Nat)) := [
  [(0, .aload_n 0, 0, 0), (1, .getfield 36, 0, 4), (4, .getfield 134, 0, 400), (7, .iload_n 1, 0, 0), (8, .invokevirtual 152, 0, 520), (11, .ifCond .ne 5, 0, 16), (14, .iconst (-1), (-1), 0), (15, .ireturn, 0, 0)],
  [(16, .iconst 0, 0, 0), (17, .istore_n 2, 0, 0), (18, .aload_n 0, 0, 0), (19, .getfield 36, 0, 4), (22, .iload_n 1, 0, 0), (23, .iconst 0, 0, 0), (24, .invokevirtual 231, 0, 930), (27, .istore_n 3, 0, 0), (28, .iconst 1, 1, 0), (29, .istore 4, 0, 0), (31, .iload 4, 0, 0)],
  [(33, .aload_n 0, 0, 0), (34, .getfield 36, 0, 4), (37, .getfield 134, 0, 400), (40, .getfield 148, 0, 300), (43, .if_icmp .ge 33, 0, 76), (46, .aload_n 0, 0, 0), (47, .getfield 36, 0, 4)],
  [(50, .iload_n 1, 0, 0), (51, .iload 4, 0, 0), (53, .invokevirtual 231, 0, 930), (56, .istore 5, 0, 0), (58, .iload 5, 0, 0), (60, .iload_n 3, 0, 0), (61, .if_icmp .le 9, 0, 70)],
  [(64, .iload 4, 0, 0), (66, .istore_n 2, 0, 0), (67, .iload 5, 0, 0), (69, .istore_n 3, 0, 0), (70, .iinc 4 1, 1, 0), (73, .goto (-42), 0, 31), (76, .aload_n 0, 0, 0), (77, .iload_n 3, 0, 0), (78, .invokevirtual 94, 0, 240)],
  [(81, .pop, 0, 0), (82, .iload_n 2, 0, 0), (83, .ireturn, 0, 0)]]
def qp_k95 : List (List (Nat × Instr × Int32 × Nat)) := [
  [(0, .aload_n 0, 0, 0), (1, .getfield 36, 0, 4), (4, .iload_n 1, 0, 0), (5, .invokevirtual 202, 0, 810), (8, .ifCond .eq 15, 0, 23), (11, .aload_n 0, 0, 0), (12, .getfield 36, 0, 4), (15, .iload_n 1, 0, 0)],
  [(16, .iconst 0, 0, 0), (17, .invokevirtual 205, 0, 790), (20, .goto 4, 0, 24), (23, .iconst (-1), (-1), 0), (24, .ireturn, 0, 0)]]
def qp_k96 : List (List (Nat × Instr × Int32 × Nat)) := [
  [(0, .aload_n 0, 0, 0), (1, .getfield 36, 0, 4), (4, .getfield 134, 0, 400), (7, .astore 5, 0, 0), (9, .aload 5, 0, 0), (11, .iload_n 1, 0, 0), (12, .invokevirtual 152, 0, 520), (15, .ifCond .eq 38, 0, 53)],
  [(18, .aload 5, 0, 0), (20, .iload_n 2, 0, 0), (21, .invokevirtual 152, 0, 520), (24, .ifCond .eq 29, 0, 53), (27, .aload 5, 0, 0), (29, .iload_n 3, 0, 0), (30, .invokevirtual 152, 0, 520)],
  [(33, .ifCond .eq 20, 0, 53), (36, .iload_n 1, 0, 0), (37, .iload_n 2, 0, 0), (38, .if_icmp .eq 15, 0, 53), (41, .aload_n 0, 0, 0), (42, .getfield 14, 0, 0), (45, .iload 4, 0, 0), (47, .invokevirtual 106, 0, 130)],
  [(50, .ifCond .ne 5, 0, 55), (53, .iconst (-1), (-1), 0), (54, .ireturn, 0, 0), (55, .aload_n 0, 0, 0), (56, .getfield 45, 0, 5), (59, .iload_n 1, 0, 0), (60, .iload_n 2, 0, 0), (61, .iload_n 3, 0, 0), (62, .invokevirtual 234, 0, 970)],
  [(65, .istore 6, 0, 0), (67, .iload 6, 0, 0), (69, .bipush (-9), (-9), 0), (71, .if_icmp .ne 6, 0, 77), (74, .bipush (-9), (-9), 0), (76, .ireturn, 0, 0), (77, .aload_n 0, 0, 0), (78, .getfield 14, 0, 0)],
  [(81, .iload 4, 0, 0), (83, .iload 6, 0, 0), (85, .iconst 0, 0, 0), (86, .invokevirtual 215, 0, 150), (89, .iconst 0, 0, 0), (90, .istore 7, 0, 0), (92, .iload 7, 0, 0), (94, .iload 6, 0, 0)],
  [(96, .if_icmp .ge 31, 0, 127), (99, .aload_n 0, 0, 0), (100, .getfield 14, 0, 0), (103, .iload 4, 0, 0), (105, .iload 7, 0, 0), (107, .aload_n 0, 0, 0), (108, .getfield 45, 0, 5), (111, .iload 7, 0, 0)],
  [(113, .iload 6, 0, 0), (115, .invokevirtual 238, 0, 1030), (118, .invokevirtual 90, 0, 230), (121, .iinc 7 1, 1, 0), (124, .goto (-32), 0, 92), (127, .iload 6, 0, 0)],
  [(129, .ireturn, 0, 0)]]
def qp_k97 : List (List (Nat × Instr × Int32 × Nat)) := [
  [(0, .iconst 0, 0, 0), (1, .istore 4, 0, 0), (3, .iload 4, 0, 0), (5, .aload_n 0, 0, 0), (6, .getfield 18, 0, 603), (9, .arraylength, 0, 0), (10, .if_icmp .ge 17, 0, 27), (13, .aload_n 0, 0, 0), (14, .getfield 18, 0, 603)],
  [(17, .iload 4, 0, 0), (19, .iconst 0, 0, 0), (20, .bastore, 0, 0), (21, .iinc 4 1, 1, 0), (24, .goto (-21), 0, 3), (27, .aload_n 0, 0, 0), (28, .iconst 0, 0, 0), (29, .putfield 26, 0, 604)],
  [(32, .aload_n 0, 0, 0), (33, .aload_n 0, 0, 0), (34, .getfield 22, 0, 600), (37, .getfield 30, 0, 402), (40, .iconst 0, 0, 0), (41, .invokevirtual 35, 0, 980), (44, .iconst 0, 0, 0), (45, .istore 4, 0, 0), (47, .iconst 0, 0, 0)],
  [(48, .istore 5, 0, 0), (50, .iload 5, 0, 0), (52, .iconst 3, 3, 0), (53, .if_icmp .gt 124, 0, 177), (56, .aload_n 0, 0, 0), (57, .getfield 26, 0, 604), (60, .istore 6, 0, 0), (62, .iload 4, 0, 0)],
  [(64, .istore 7, 0, 0), (66, .iload 7, 0, 0), (68, .iload 6, 0, 0), (70, .if_icmp .ge 48, 0, 118), (73, .iload 7, 0, 0), (75, .sipush 720, 720, 0), (78, .if_icmp .ge 40, 0, 118)],
  [(81, .aload_n 0, 0, 0), (82, .aload_n 0, 0, 0), (83, .getfield 9, 0, 601), (86, .iload 7, 0, 0), (88, .iaload, 0, 0), (89, .iload_n 1, 0, 0), (90, .iload_n 2, 0, 0), (91, .iload_n 3, 0, 0), (92, .invokevirtual 39, 0, 1010), (95, .ifCond .eq 17, 0, 112)],
  [(98, .aload_n 0, 0, 0), (99, .aload_n 0, 0, 0), (100, .getfield 15, 0, 602), (103, .iload 7, 0, 0), (105, .iaload, 0, 0), (106, .putfield 43, 0, 605), (109, .iload 5, 0, 0), (111, .ireturn, 0, 0)],
  [(112, .iinc 7 1, 1, 0), (115, .goto (-49), 0, 66), (118, .iload 4, 0, 0), (120, .istore 7, 0, 0), (122, .iload 7, 0, 0), (124, .iload 6, 0, 0), (126, .if_icmp .ge 41, 0, 167)],
  [(129, .iload 7, 0, 0), (131, .sipush 720, 720, 0), (134, .if_icmp .ge 33, 0, 167), (137, .iload 5, 0, 0), (139, .iconst 3, 3, 0), (140, .if_icmp .ge 27, 0, 167), (143, .aload_n 0, 0, 0)],
  [(144, .aload_n 0, 0, 0), (145, .getfield 9, 0, 601), (148, .iload 7, 0, 0), (150, .iaload, 0, 0), (151, .aload_n 0, 0, 0), (152, .getfield 15, 0, 602), (155, .iload 7, 0, 0), (157, .iaload, 0, 0), (158, .invokevirtual 46, 0, 1020)],
  [(161, .iinc 7 1, 1, 0), (164, .goto (-42), 0, 122), (167, .iload 6, 0, 0), (169, .istore 4, 0, 0), (171, .iinc 5 1, 1, 0), (174, .goto (-124), 0, 50)],
  [(177, .bipush (-9), (-9), 0), (179, .ireturn, 0, 0)]]
def qp_k98 : List (List (Nat × Instr × Int32 × Nat)) := [
  [(0, .iload_n 1, 0, 0), (1, .aload_n 0, 0, 0), (2, .getfield 22, 0, 600), (5, .getfield 49, 0, 400), (8, .getfield 53, 0, 300), (11, .invokestatic 84, 0, 991), (14, .istore_n 3, 0, 0), (15, .iload_n 3, 0, 0)],
  [(16, .ifCond .lt 66, 0, 82), (19, .iload_n 3, 0, 0), (20, .sipush 720, 720, 0), (23, .if_icmp .ge 59, 0, 82), (26, .aload_n 0, 0, 0), (27, .getfield 18, 0, 603), (30, .iload_n 3, 0, 0), (31, .baload, 0, 0)],
  [(32, .ifCond .ne 50, 0, 82), (35, .aload_n 0, 0, 0), (36, .getfield 26, 0, 604), (39, .sipush 720, 720, 0), (42, .if_icmp .ge 40, 0, 82), (45, .aload_n 0, 0, 0), (46, .getfield 18, 0, 603)],
  [(49, .iload_n 3, 0, 0), (50, .iconst 1, 1, 0), (51, .bastore, 0, 0), (52, .aload_n 0, 0, 0), (53, .getfield 9, 0, 601), (56, .aload_n 0, 0, 0), (57, .getfield 26, 0, 604), (60, .iload_n 1, 0, 0), (61, .iastore, 0, 0), (62, .aload_n 0, 0, 0), (63, .getfield 15, 0, 602)],
  [(66, .aload_n 0, 0, 0), (67, .getfield 26, 0, 604), (70, .iload_n 2, 0, 0), (71, .iastore, 0, 0), (72, .aload_n 0, 0, 0), (73, .dup, 0, 0), (74, .getfield 26, 0, 604), (77, .iconst 1, 1, 0), (78, .iadd, 0, 0), (79, .putfield 26, 0, 604)],
  [(82, .return_, 0, 0)]]
def qp_k99 : List (List (Nat × Instr × Int32 × Nat)) := [
  [(0, .iconst 0, 0, 0), (1, .istore_n 2, 0, 0), (2, .iconst 0, 0, 0), (3, .istore_n 3, 0, 0), (4, .iconst 0, 0, 0), (5, .istore 4, 0, 0), (7, .iload 4, 0, 0), (9, .iload_n 1, 0, 0), (10, .if_icmp .ge 46, 0, 56), (13, .iload_n 0, 0, 0), (14, .iload 4, 0, 0)],
  [(16, .invokestatic 13, 0, 551), (19, .istore 5, 0, 0), (21, .iload_n 2, 0, 0), (22, .iload_n 1, 0, 0), (23, .iload 4, 0, 0), (25, .isub, 0, 0), (26, .imul, 0, 0), (27, .iload 5, 0, 0), (29, .iadd, 0, 0), (30, .iload_n 3, 0, 0), (31, .iconst 1, 1, 0)],
  [(32, .iload 5, 0, 0), (34, .ishl, 0, 0), (35, .iconst 1, 1, 0), (36, .isub, 0, 0), (37, .iand, 0, 0), (38, .invokestatic 32, 0, 1001), (41, .isub, 0, 0), (42, .istore_n 2, 0, 0), (43, .iload_n 3, 0, 0), (44, .iconst 1, 1, 0), (45, .iload 5, 0, 0), (47, .ishl, 0, 0)],
  [(48, .ior, 0, 0), (49, .istore_n 3, 0, 0), (50, .iinc 4 1, 1, 0), (53, .goto (-46), 0, 7), (56, .iload_n 2, 0, 0), (57, .ireturn, 0, 0)]]
def qp_k100 : List (List (Nat × Instr × Int32 × Nat)) := [
  [(0, .iload_n 0, 0, 0), (1, .iload_n 0, 0, 0), (2, .iconst 1, 1, 0), (3, .iushr, 0, 0), (4, .ldc_w 265, 1431655765, 0), (7, .iand, 0, 0), (8, .isub, 0, 0), (9, .istore_n 0, 0, 0), (10, .iload_n 0, 0, 0), (11, .ldc_w 266, 858993459, 0), (14, .iand, 0, 0), (15, .iload_n 0, 0, 0)],
  [(16, .iconst 2, 2, 0), (17, .iushr, 0, 0), (18, .ldc_w 266, 858993459, 0), (21, .iand, 0, 0), (22, .iadd, 0, 0), (23, .istore_n 0, 0, 0), (24, .iload_n 0, 0, 0), (25, .iload_n 0, 0, 0), (26, .iconst 4, 4, 0), (27, .iushr, 0, 0), (28, .iadd, 0, 0), (29, .ldc_w 267, 252645135, 0)],
  [(32, .iand, 0, 0), (33, .istore_n 0, 0, 0), (34, .iload_n 0, 0, 0), (35, .iload_n 0, 0, 0), (36, .bipush 8, 8, 0), (38, .iushr, 0, 0), (39, .iadd, 0, 0), (40, .istore_n 0, 0, 0), (41, .iload_n 0, 0, 0), (42, .iload_n 0, 0, 0), (43, .bipush 16, 16, 0), (45, .iushr, 0, 0), (46, .iadd, 0, 0), (47, .istore_n 0, 0, 0)],
  [(48, .iload_n 0, 0, 0), (49, .bipush 63, 63, 0), (51, .iand, 0, 0), (52, .ireturn, 0, 0)]]
def qp_k101 : List (List (Nat × Instr × Int32 × Nat)) := [
  [(0, .iload_n 1, 0, 0), (1, .aload_n 0, 0, 0), (2, .getfield 22, 0, 600), (5, .getfield 49, 0, 400), (8, .getfield 53, 0, 300), (11, .iload_n 2, 0, 0), (12, .iload_n 3, 0, 0), (13, .invokestatic 58, 0, 671)],
  [(16, .ifCond .ne 5, 0, 21), (19, .iconst 0, 0, 0), (20, .ireturn, 0, 0), (21, .aload_n 0, 0, 0), (22, .getfield 22, 0, 600), (25, .iload_n 1, 0, 0), (26, .invokevirtual 63, 0, 530), (29, .aload_n 0, 0, 0), (30, .getfield 22, 0, 600)],
  [(33, .getfield 67, 0, 401), (36, .iload 4, 0, 0), (38, .invokevirtual 71, 0, 640), (41, .aload_n 0, 0, 0), (42, .getfield 22, 0, 600), (45, .getfield 67, 0, 401)],
  [(48, .iload 4, 0, 0), (50, .invokevirtual 77, 0, 630), (53, .if_icmp .ne 7, 0, 60), (56, .iconst 1, 1, 0), (57, .goto 4, 0, 61), (60, .iconst 0, 0, 0), (61, .ireturn, 0, 0)]]
def qp_k102 : List (List (Nat × Instr × Int32 × Nat)) := [
  [(0, .aload_n 0, 0, 0), (1, .getfield 22, 0, 600), (4, .getfield 49, 0, 400), (7, .getfield 53, 0, 300), (10, .istore_n 3, 0, 0), (11, .iconst 0, 0, 0), (12, .istore 4, 0, 0), (14, .iload 4, 0, 0)],
  [(16, .iload_n 3, 0, 0), (17, .if_icmp .ge 54, 0, 71), (20, .iconst 0, 0, 0), (21, .istore 5, 0, 0), (23, .iload 5, 0, 0), (25, .iload_n 3, 0, 0), (26, .if_icmp .ge 39, 0, 65), (29, .aload_n 0, 0, 0), (30, .iload_n 1, 0, 0), (31, .iload_n 3, 0, 0)],
  [(32, .bipush 8, 8, 0), (34, .iload 4, 0, 0), (36, .imul, 0, 0), (37, .iload 5, 0, 0), (39, .iadd, 0, 0), (40, .invokestatic 80, 0, 761), (43, .iload_n 2, 0, 0), (44, .bipush 6, 6, 0), (46, .ishl, 0, 0), (47, .bipush 8, 8, 0)],
  [(49, .iload 4, 0, 0), (51, .imul, 0, 0), (52, .iload 5, 0, 0), (54, .iadd, 0, 0), (55, .ior, 0, 0), (56, .invokevirtual 35, 0, 980), (59, .iinc 5 1, 1, 0), (62, .goto (-39), 0, 23)],
  [(65, .iinc 4 1, 1, 0), (68, .goto (-54), 0, 14), (71, .return_, 0, 0)]]
def qp_k103 : List (List (Nat × Instr × Int32 × Nat)) := [
  [(0, .aload_n 0, 0, 0), (1, .getfield 43, 0, 605), (4, .bipush 6, 6, 0), (6, .iload_n 2, 0, 0), (7, .iconst 1, 1, 0), (8, .isub, 0, 0), (9, .iload_n 1, 0, 0), (10, .isub, 0, 0), (11, .imul, 0, 0), (12, .ishr, 0, 0), (13, .bipush 63, 63, 0), (15, .iand, 0, 0)],
  [(16, .ireturn, 0, 0)]]
def qp_k104 : List (List (Nat × Instr × Int32 × Nat)) := [
  [(0, .aload_n 0, 0, 0), (1, .getfield 36, 0, 4), (4, .getfield 134, 0, 400), (7, .getfield 148, 0, 300), (10, .ifCond .ne 19, 0, 29), (13, .aload_n 0, 0, 0), (14, .getfield 14, 0, 0)],
  [(17, .iload_n 1, 0, 0), (18, .invokevirtual 106, 0, 130), (21, .ifCond .eq 8, 0, 29), (24, .bipush (-4), (-4), 0), (26, .goto 8, 0, 34), (29, .aload_n 0, 0, 0), (30, .iload_n 1, 0, 0), (31, .invokevirtual 241, 0, 1050)],
  [(34, .istore_n 2, 0, 0), (35, .iload_n 2, 0, 0), (36, .ifCond .eq 5, 0, 41), (39, .iload_n 2, 0, 0), (40, .ireturn, 0, 0), (41, .aload_n 0, 0, 0), (42, .iload_n 1, 0, 0), (43, .invokevirtual 244, 0, 1060), (46, .aload_n 0, 0, 0), (47, .aload_n 0, 0, 0)],
  [(48, .getfield 52, 0, 6), (51, .getfield 247, 0, 700), (54, .i2l, 0, 0), (55, .lconst 1, 0, 0), (56, .invokevirtual 250, 0, 1110), (59, .ireturn, 0, 0)]]
def qp_k105 : List (List (Nat × Instr × Int32 × Nat)) := [
  [(0, .aload_n 0, 0, 0), (1, .aload_n 0, 0, 0), (2, .getfield 14, 0, 0), (5, .iload_n 1, 0, 0), (6, .invokevirtual 98, 0, 180), (9, .istore_n 2, 0, 0), (10, .iload_n 2, 0, 0), (11, .ifCond .eq 5, 0, 16), (14, .iload_n 2, 0, 0), (15, .ireturn, 0, 0)],
  [(16, .aload_n 0, 0, 0), (17, .getfield 14, 0, 0), (20, .iload_n 1, 0, 0), (21, .invokevirtual 124, 0, 200), (24, .istore_n 3, 0, 0), (25, .iload_n 3, 0, 0), (26, .iconst 2, 2, 0), (27, .irem, 0, 0), (28, .ifCond .ne 9, 0, 37), (31, .iload_n 3, 0, 0)],
  [(32, .bipush 16, 16, 0), (34, .if_icmp .le 9, 0, 43), (37, .aload_n 0, 0, 0), (38, .iconst 5, 5, 0), (39, .invokevirtual 110, 0, 140), (42, .ireturn, 0, 0), (43, .iconst 0, 0, 0), (44, .istore 4, 0, 0), (46, .iload 4, 0, 0)],
  [(48, .iload_n 3, 0, 0), (49, .if_icmp .ge 64, 0, 113), (52, .aload_n 0, 0, 0), (53, .getfield 14, 0, 0), (56, .iload_n 1, 0, 0), (57, .iload 4, 0, 0), (59, .iconst 1, 1, 0), (60, .iadd, 0, 0), (61, .invokevirtual 86, 0, 220)],
  [(64, .istore 5, 0, 0), (66, .aload_n 0, 0, 0), (67, .getfield 36, 0, 4), (70, .getfield 134, 0, 400), (73, .aload_n 0, 0, 0), (74, .getfield 14, 0, 0), (77, .iload_n 1, 0, 0), (78, .iload 4, 0, 0)],
  [(80, .invokevirtual 86, 0, 220), (83, .invokevirtual 152, 0, 520), (86, .ifCond .eq 15, 0, 101), (89, .iload 5, 0, 0), (91, .ifCond .lt 10, 0, 101), (94, .iload 5, 0, 0)],
  [(96, .bipush 9, 9, 0), (98, .if_icmp .le 9, 0, 107), (101, .aload_n 0, 0, 0), (102, .iconst 3, 3, 0), (103, .invokevirtual 110, 0, 140), (106, .ireturn, 0, 0), (107, .iinc 4 2, 2, 0), (110, .goto (-64), 0, 46)],
  [(113, .iconst 0, 0, 0), (114, .ireturn, 0, 0)]]
def qp_k106 : List (List (Nat × Instr × Int32 × Nat)) := [
  [(0, .aload_n 0, 0, 0), (1, .getfield 52, 0, 6), (4, .invokevirtual 340, 0, 1070), (7, .aload_n 0, 0, 0), (8, .getfield 14, 0, 0), (11, .iload_n 1, 0, 0), (12, .invokevirtual 124, 0, 200), (15, .istore_n 2, 0, 0)],
  [(16, .iconst 0, 0, 0), (17, .istore_n 3, 0, 0), (18, .iload_n 3, 0, 0), (19, .iload_n 2, 0, 0), (20, .if_icmp .ge 36, 0, 56), (23, .aload_n 0, 0, 0), (24, .getfield 52, 0, 6), (27, .aload_n 0, 0, 0), (28, .getfield 14, 0, 0), (31, .iload_n 1, 0, 0)],
  [(32, .iload_n 3, 0, 0), (33, .invokevirtual 86, 0, 220), (36, .aload_n 0, 0, 0), (37, .getfield 14, 0, 0), (40, .iload_n 1, 0, 0), (41, .iload_n 3, 0, 0), (42, .iconst 1, 1, 0), (43, .iadd, 0, 0), (44, .invokevirtual 86, 0, 220), (47, .invokevirtual 343, 0, 1080)],
  [(50, .iinc 3 2, 2, 0), (53, .goto (-35), 0, 18), (56, .aload_n 0, 0, 0), (57, .getfield 52, 0, 6), (60, .iconst 0, 0, 0), (61, .iconst 0, 0, 0), (62, .iconst 0, 0, 0), (63, .invokevirtual 346, 0, 1093)],
  [(66, .return_, 0, 0)]]
def qp_k107 : List (List (Nat × Instr × Int32 × Nat)) := [
  [(0, .aload_n 0, 0, 0), (1, .iconst 0, 0, 0), (2, .putfield 25, 0, 700), (5, .iconst 0, 0, 0), (6, .istore_n 1, 0, 0), (7, .iload_n 1, 0, 0), (8, .bipush 6, 6, 0), (10, .if_icmp .ge 23, 0, 33), (13, .aload_n 0, 0, 0), (14, .getfield 9, 0, 702)],
  [(17, .iload_n 1, 0, 0), (18, .iconst (-1), (-1), 0), (19, .iastore, 0, 0), (20, .aload_n 0, 0, 0), (21, .getfield 15, 0, 703), (24, .iload_n 1, 0, 0), (25, .iconst 0, 0, 0), (26, .iastore, 0, 0), (27, .iinc 1 1, 1, 0), (30, .goto (-23), 0, 7)],
  [(33, .iconst 0, 0, 0), (34, .istore_n 1, 0, 0), (35, .iload_n 1, 0, 0), (36, .aload_n 0, 0, 0), (37, .getfield 18, 0, 704), (40, .arraylength, 0, 0), (41, .if_icmp .ge 16, 0, 57), (44, .aload_n 0, 0, 0), (45, .getfield 18, 0, 704)],
  [(48, .iload_n 1, 0, 0), (49, .iconst 0, 0, 0), (50, .iastore, 0, 0), (51, .iinc 1 1, 1, 0), (54, .goto (-19), 0, 35), (57, .return_, 0, 0)]]
def qp_k108 : List (List (Nat × Instr × Int32 × Nat)) := [
  [(0, .iload_n 1, 0, 0), (1, .ifCond .lt 44, 0, 45), (4, .iload_n 1, 0, 0), (5, .aload_n 0, 0, 0), (6, .getfield 9, 0, 702), (9, .arraylength, 0, 0), (10, .if_icmp .ge 35, 0, 45), (13, .aload_n 0, 0, 0), (14, .getfield 9, 0, 702)],
  [(17, .iload_n 1, 0, 0), (18, .aload_n 0, 0, 0), (19, .getfield 9, 0, 702), (22, .iload_n 1, 0, 0), (23, .iaload, 0, 0), (24, .iconst (-1), (-1), 0), (25, .if_icmp .eq 13, 0, 38), (28, .aload_n 0, 0, 0), (29, .getfield 9, 0, 702)],
  [(32, .iload_n 1, 0, 0), (33, .iaload, 0, 0), (34, .iload_n 2, 0, 0), (35, .if_icmp .ne 7, 0, 42), (38, .iload_n 2, 0, 0), (39, .goto 5, 0, 44), (42, .bipush (-2), (-2), 0), (44, .iastore, 0, 0), (45, .return_, 0, 0)]]
def qp_k109 : List (List (Nat × Instr × Int32 × Nat)) := [
  [(0, .iload_n 2, 0, 0), (1, .aload_n 0, 0, 0), (2, .getfield 21, 0, 701), (5, .getfield 29, 0, 400), (8, .getfield 35, 0, 300), (11, .if_icmp .lt 9, 0, 20), (14, .aload_n 0, 0, 0), (15, .iload_n 1, 0, 0)],
  [(16, .invokevirtual 40, 0, 1100), (19, .return_, 0, 0), (20, .iconst 0, 0, 0), (21, .istore 4, 0, 0), (23, .iload 4, 0, 0), (25, .aload_n 0, 0, 0), (26, .getfield 21, 0, 701), (29, .getfield 29, 0, 400)],
  [(32, .getfield 35, 0, 300), (35, .if_icmp .ge 38, 0, 73), (38, .iload_n 3, 0, 0), (39, .iload 4, 0, 0), (41, .ishr, 0, 0), (42, .iconst 1, 1, 0), (43, .iand, 0, 0), (44, .ifCond .ne 23, 0, 67), (47, .aload_n 0, 0, 0)],
  [(48, .iload_n 1, 0, 0), (49, .iload_n 2, 0, 0), (50, .iload 4, 0, 0), (52, .invokestatic 44, 0, 501), (55, .iload_n 2, 0, 0), (56, .iconst 1, 1, 0), (57, .iadd, 0, 0), (58, .iload_n 3, 0, 0), (59, .iconst 1, 1, 0), (60, .iload 4, 0, 0), (62, .ishl, 0, 0), (63, .ior, 0, 0)],
  [(64, .invokevirtual 50, 0, 1090), (67, .iinc 4 1, 1, 0), (70, .goto (-47), 0, 23), (73, .return_, 0, 0)]]
def qp_k110 : List (List (Nat × Instr × Int32 × Nat)) := [
  [(0, .aload_n 0, 0, 0), (1, .getfield 21, 0, 701), (4, .iload_n 1, 0, 0), (5, .invokevirtual 54, 0, 530), (8, .aload_n 0, 0, 0), (9, .getfield 21, 0, 701), (12, .getfield 29, 0, 400), (15, .getfield 35, 0, 300)],
  [(18, .istore_n 2, 0, 0), (19, .iconst 0, 0, 0), (20, .istore_n 3, 0, 0), (21, .iload_n 3, 0, 0), (22, .iload_n 2, 0, 0), (23, .if_icmp .ge 49, 0, 72), (26, .iload_n 3, 0, 0), (27, .aload_n 0, 0, 0), (28, .getfield 9, 0, 702), (31, .arraylength, 0, 0)],
  [(32, .if_icmp .ge 40, 0, 72), (35, .aload_n 0, 0, 0), (36, .getfield 9, 0, 702), (39, .iload_n 3, 0, 0), (40, .iaload, 0, 0), (41, .iconst (-1), (-1), 0), (42, .if_icmp .eq 24, 0, 66), (45, .aload_n 0, 0, 0), (46, .getfield 9, 0, 702)],
  [(49, .iload_n 3, 0, 0), (50, .iaload, 0, 0), (51, .aload_n 0, 0, 0), (52, .getfield 21, 0, 701), (55, .getfield 57, 0, 401), (58, .iload_n 3, 0, 0), (59, .invokevirtual 61, 0, 640), (62, .if_icmp .eq 4, 0, 66)],
  [(65, .return_, 0, 0), (66, .iinc 3 1, 1, 0), (69, .goto (-48), 0, 21), (72, .aload_n 0, 0, 0), (73, .dup, 0, 0), (74, .getfield 25, 0, 700), (77, .iconst 1, 1, 0), (78, .iadd, 0, 0), (79, .putfield 25, 0, 700)],
  [(82, .iconst 0, 0, 0), (83, .istore_n 3, 0, 0), (84, .iload_n 3, 0, 0), (85, .iload_n 2, 0, 0), (86, .if_icmp .ge 77, 0, 163), (89, .iload_n 3, 0, 0), (90, .aload_n 0, 0, 0), (91, .getfield 15, 0, 703), (94, .arraylength, 0, 0), (95, .if_icmp .ge 68, 0, 163)],
  [(98, .aload_n 0, 0, 0), (99, .getfield 15, 0, 703), (102, .iload_n 3, 0, 0), (103, .dup2, 0, 0), (104, .iaload, 0, 0), (105, .iconst 1, 1, 0), (106, .iload_n 1, 0, 0), (107, .iload_n 3, 0, 0), (108, .invokestatic 67, 0, 551), (111, .ishl, 0, 0)],
  [(112, .ior, 0, 0), (113, .iastore, 0, 0), (114, .iload_n 3, 0, 0), (115, .iconst 4, 4, 0), (116, .imul, 0, 0), (117, .aload_n 0, 0, 0), (118, .getfield 21, 0, 701), (121, .getfield 57, 0, 401), (124, .iload_n 3, 0, 0), (125, .invokevirtual 61, 0, 640)],
  [(128, .iadd, 0, 0), (129, .istore 4, 0, 0), (131, .iload 4, 0, 0), (133, .ifCond .lt 24, 0, 157), (136, .iload 4, 0, 0), (138, .aload_n 0, 0, 0), (139, .getfield 18, 0, 704), (142, .arraylength, 0, 0), (143, .if_icmp .ge 14, 0, 157)],
  [(146, .aload_n 0, 0, 0), (147, .getfield 18, 0, 704), (150, .iload 4, 0, 0), (152, .dup2, 0, 0), (153, .iaload, 0, 0), (154, .iconst 1, 1, 0), (155, .iadd, 0, 0), (156, .iastore, 0, 0), (157, .iinc 3 1, 1, 0)],
  [(160, .goto (-76), 0, 84), (163, .return_, 0, 0)]]
def qp_k111 : List (List (Nat × Instr × Int32 × Nat)) := [
  [(0, .lload_n 1, 0, 0), (1, .lload_n 3, 0, 0), (2, .invokestatic 315, 0, 1121), (5, .lstore 5, 0, 0), (7, .lload 5, 0, 0), (9, .lconst 0, 0, 0), (10, .lcmp, 0, 0), (11, .ifCond .le 19, 0, 30), (14, .aload_n 0, 0, 0), (15, .lload_n 1, 0, 0)],
  [(16, .lload 5, 0, 0), (18, .ldiv, 0, 0), (19, .putfield 292, 0, 12), (22, .aload_n 0, 0, 0), (23, .lload_n 3, 0, 0), (24, .lload 5, 0, 0), (26, .ldiv, 0, 0), (27, .putfield 74, 0, 13), (30, .iconst 1, 1, 0), (31, .ireturn, 0, 0)]]
def qp_k112 : List (List (Nat × Instr × Int32 × Nat)) := [
  [(0, .lload_n 0, 0, 0), (1, .lstore 4, 0, 0), (3, .lload_n 2, 0, 0), (4, .lstore 6, 0, 0), (6, .iconst 0, 0, 0), (7, .istore 8, 0, 0), (9, .iload 8, 0, 0), (11, .sipush 200, 200, 0), (14, .if_icmp .ge 31, 0, 45)],
  [(17, .lload 6, 0, 0), (19, .lconst 0, 0, 0), (20, .lcmp, 0, 0), (21, .ifCond .eq 24, 0, 45), (24, .lload 4, 0, 0), (26, .lload 6, 0, 0), (28, .lrem, 0, 0), (29, .lstore 9, 0, 0), (31, .lload 6, 0, 0)],
  [(33, .lstore 4, 0, 0), (35, .lload 9, 0, 0), (37, .lstore 6, 0, 0), (39, .iinc 8 1, 1, 0), (42, .goto (-33), 0, 9), (45, .lload 4, 0, 0), (47, .lreturn, 0, 0)]]
def qp_k113 : List (List (Nat × Instr × Int32 × Nat)) := [
  [(0, .aload_n 0, 0, 0), (1, .getfield 36, 0, 4), (4, .getfield 134, 0, 400), (7, .iload_n 2, 0, 0), (8, .invokevirtual 152, 0, 520), (11, .ifCond .eq 11, 0, 22), (14, .aload_n 0, 0, 0), (15, .iload_n 1, 0, 0)],
  [(16, .invokevirtual 241, 0, 1050), (19, .goto 4, 0, 23), (22, .iconst (-1), (-1), 0), (23, .istore_n 3, 0, 0), (24, .iload_n 3, 0, 0), (25, .ifCond .eq 5, 0, 30), (28, .iload_n 3, 0, 0), (29, .ireturn, 0, 0), (30, .aload_n 0, 0, 0), (31, .iload_n 1, 0, 0)],
  [(32, .invokevirtual 244, 0, 1060), (35, .aload_n 0, 0, 0), (36, .getfield 52, 0, 6), (39, .iload_n 2, 0, 0), (40, .invokevirtual 254, 0, 1140), (43, .ireturn, 0, 0)]]
def qp_k114 : List (List (Nat × Instr × Int32 × Nat)) := [
  [(0, .iload_n 1, 0, 0), (1, .ifCond .lt 21, 0, 22), (4, .iload_n 1, 0, 0), (5, .aload_n 0, 0, 0), (6, .getfield 15, 0, 703), (9, .arraylength, 0, 0), (10, .if_icmp .ge 12, 0, 22), (13, .aload_n 0, 0, 0), (14, .getfield 15, 0, 703)],
  [(17, .iload_n 1, 0, 0), (18, .iaload, 0, 0), (19, .goto 4, 0, 23), (22, .iconst 0, 0, 0), (23, .ireturn, 0, 0)]]
def qp_k115 : List (List (Nat × Instr × Int32 × Nat)) := [
  [(0, .aload_n 0, 0, 0), (1, .getfield 36, 0, 4), (4, .getfield 134, 0, 400), (7, .getfield 148, 0, 300), (10, .ifCond .ne 19, 0, 29), (13, .aload_n 0, 0, 0), (14, .getfield 14, 0, 0)],
  [(17, .iload_n 1, 0, 0), (18, .invokevirtual 106, 0, 130), (21, .ifCond .eq 8, 0, 29), (24, .bipush (-4), (-4), 0), (26, .goto 8, 0, 34), (29, .aload_n 0, 0, 0), (30, .iload_n 1, 0, 0), (31, .invokevirtual 241, 0, 1050)],
  [(34, .istore_n 2, 0, 0), (35, .iload_n 2, 0, 0), (36, .ifCond .eq 5, 0, 41), (39, .iload_n 2, 0, 0), (40, .ireturn, 0, 0), (41, .aload_n 0, 0, 0), (42, .iload_n 1, 0, 0), (43, .invokevirtual 244, 0, 1060), (46, .aload_n 0, 0, 0), (47, .getfield 52, 0, 6)],
  [(50, .getfield 247, 0, 700), (53, .ifCond .ne 6, 0, 59), (56, .bipush (-9), (-9), 0), (58, .ireturn, 0, 0), (59, .iconst 0, 0, 0), (60, .istore_n 3, 0, 0), (61, .iconst 1, 1, 0), (62, .istore 4, 0, 0)],
  [(64, .iload 4, 0, 0), (66, .aload_n 0, 0, 0), (67, .getfield 36, 0, 4), (70, .getfield 134, 0, 400), (73, .getfield 148, 0, 300), (76, .if_icmp .ge 32, 0, 108), (79, .aload_n 0, 0, 0)],
  [(80, .getfield 52, 0, 6), (83, .iload 4, 0, 0), (85, .invokevirtual 257, 0, 1160), (88, .aload_n 0, 0, 0), (89, .getfield 52, 0, 6), (92, .iload_n 3, 0, 0), (93, .invokevirtual 257, 0, 1160)],
  [(96, .if_icmp .ge 6, 0, 102), (99, .iload 4, 0, 0), (101, .istore_n 3, 0, 0), (102, .iinc 4 1, 1, 0), (105, .goto (-41), 0, 64), (108, .aload_n 0, 0, 0), (109, .aload_n 0, 0, 0), (110, .getfield 52, 0, 6)],
  [(113, .iload_n 3, 0, 0), (114, .invokevirtual 257, 0, 1160), (117, .invokevirtual 94, 0, 240), (120, .pop, 0, 0), (121, .iload_n 3, 0, 0), (122, .ireturn, 0, 0)]]
def qp_k116 : List (List (Nat × Instr × Int32 × Nat)) := [
  [(0, .iconst 0, 0, 0), (1, .istore_n 2, 0, 0), (2, .iload_n 1, 0, 0), (3, .iconst 4, 4, 0), (4, .imul, 0, 0), (5, .istore_n 3, 0, 0), (6, .iload_n 3, 0, 0), (7, .iload_n 1, 0, 0), (8, .iconst 1, 1, 0), (9, .iadd, 0, 0), (10, .iconst 4, 4, 0), (11, .imul, 0, 0), (12, .if_icmp .ge 33, 0, 45), (15, .iload_n 3, 0, 0)],
  [(16, .ifCond .lt 23, 0, 39), (19, .iload_n 3, 0, 0), (20, .aload_n 0, 0, 0), (21, .getfield 18, 0, 704), (24, .arraylength, 0, 0), (25, .if_icmp .ge 14, 0, 39), (28, .iload_n 2, 0, 0), (29, .aload_n 0, 0, 0), (30, .getfield 18, 0, 704)],
  [(33, .iload_n 3, 0, 0), (34, .iaload, 0, 0), (35, .invokestatic 71, 0, 21), (38, .istore_n 2, 0, 0), (39, .iinc 3 1, 1, 0), (42, .goto (-36), 0, 6), (45, .iload_n 2, 0, 0), (46, .ireturn, 0, 0)]]
def qp_k117 : List (List (Nat × Instr × Int32 × Nat)) := [
  [(0, .iload_n 1, 0, 0), (1, .ifCond .lt 9, 0, 10), (4, .iload_n 1, 0, 0), (5, .bipush 20, 20, 0), (7, .if_icmp .le 5, 0, 12), (10, .iconst (-1), (-1), 0), (11, .ireturn, 0, 0), (12, .aload_n 0, 0, 0), (13, .getfield 36, 0, 4)],
  [(16, .getfield 134, 0, 400), (19, .getfield 148, 0, 300), (22, .ifCond .ne 6, 0, 28), (25, .bipush (-4), (-4), 0), (27, .ireturn, 0, 0), (28, .aload_n 0, 0, 0), (29, .getfield 36, 0, 4)],
  [(32, .aload_n 0, 0, 0), (33, .getfield 36, 0, 4), (36, .getfield 153, 0, 402), (39, .invokevirtual 156, 0, 530), (42, .bipush (-9), (-9), 0), (44, .istore_n 2, 0, 0), (45, .iconst 0, 0, 0), (46, .istore_n 3, 0, 0), (47, .iconst 0, 0, 0)],
  [(48, .istore 4, 0, 0), (50, .iload 4, 0, 0), (52, .iconst 1, 1, 0), (53, .aload_n 0, 0, 0), (54, .getfield 36, 0, 4), (57, .getfield 134, 0, 400), (60, .getfield 148, 0, 300), (63, .ishl, 0, 0)],
  [(64, .if_icmp .ge 39, 0, 103), (67, .aload_n 0, 0, 0), (68, .getfield 36, 0, 4), (71, .getfield 172, 0, 401), (74, .iload 4, 0, 0), (76, .invokevirtual 260, 0, 1180), (79, .iload_n 1, 0, 0)],
  [(80, .if_icmp .ne 17, 0, 97), (83, .iload_n 3, 0, 0), (84, .ifCond .ne 8, 0, 92), (87, .iload 4, 0, 0), (89, .goto 4, 0, 93), (92, .iload_n 2, 0, 0), (93, .istore_n 2, 0, 0), (94, .iinc 3 1, 1, 0)],
  [(97, .iinc 4 1, 1, 0), (100, .goto (-50), 0, 50), (103, .aload_n 0, 0, 0), (104, .iload_n 2, 0, 0), (105, .invokevirtual 94, 0, 240), (108, .pop, 0, 0), (109, .aload_n 0, 0, 0), (110, .iload_n 3, 0, 0), (111, .i2l, 0, 0)],
  [(112, .lconst 1, 0, 0), (113, .invokevirtual 250, 0, 1110), (116, .ireturn, 0, 0)]]
def qp_k118 : List (List (Nat × Instr × Int32 × Nat)) := [
  [(0, .iconst 0, 0, 0), (1, .istore_n 2, 0, 0), (2, .iconst 0, 0, 0), (3, .istore_n 3, 0, 0), (4, .iload_n 3, 0, 0), (5, .aload_n 0, 0, 0), (6, .getfield 24, 0, 502), (9, .getfield 76, 0, 300), (12, .if_icmp .ge 26, 0, 38), (15, .iload_n 1, 0, 0)],
  [(16, .iload_n 3, 0, 0), (17, .ishr, 0, 0), (18, .iconst 1, 1, 0), (19, .iand, 0, 0), (20, .iconst 1, 1, 0), (21, .if_icmp .ne 11, 0, 32), (24, .iload_n 2, 0, 0), (25, .aload_n 0, 0, 0), (26, .iload_n 3, 0, 0), (27, .invokevirtual 79, 0, 630), (30, .iadd, 0, 0), (31, .istore_n 2, 0, 0)],
  [(32, .iinc 3 1, 1, 0), (35, .goto (-31), 0, 4), (38, .iload_n 2, 0, 0), (39, .ireturn, 0, 0)]]
def qp_k119 : List (List (Nat × Instr × Int32 × Nat)) := [
  [(0, .iload_n 1, 0, 0), (1, .ifCond .lt 9, 0, 10), (4, .iload_n 1, 0, 0), (5, .bipush 20, 20, 0), (7, .if_icmp .le 5, 0, 12), (10, .iconst (-1), (-1), 0), (11, .ireturn, 0, 0), (12, .aload_n 0, 0, 0), (13, .getfield 36, 0, 4)],
  [(16, .getfield 134, 0, 400), (19, .getfield 148, 0, 300), (22, .ifCond .ne 6, 0, 28), (25, .bipush (-4), (-4), 0), (27, .ireturn, 0, 0), (28, .aload_n 0, 0, 0), (29, .getfield 36, 0, 4)],
  [(32, .aload_n 0, 0, 0), (33, .getfield 36, 0, 4), (36, .getfield 153, 0, 402), (39, .invokevirtual 156, 0, 530), (42, .iconst 1, 1, 0), (43, .aload_n 0, 0, 0), (44, .getfield 36, 0, 4), (47, .getfield 134, 0, 400)],
  [(50, .getfield 148, 0, 300), (53, .ishl, 0, 0), (54, .iconst 1, 1, 0), (55, .isub, 0, 0), (56, .istore_n 2, 0, 0), (57, .iconst 0, 0, 0), (58, .istore_n 3, 0, 0), (59, .iload_n 2, 0, 0), (60, .istore 4, 0, 0), (62, .iconst 0, 0, 0), (63, .istore 5, 0, 0)],
  [(65, .iconst 0, 0, 0), (66, .istore 6, 0, 0), (68, .iload 6, 0, 0), (70, .iload_n 2, 0, 0), (71, .if_icmp .gt 42, 0, 113), (74, .aload_n 0, 0, 0), (75, .getfield 36, 0, 4), (78, .getfield 172, 0, 401)],
  [(81, .iload 6, 0, 0), (83, .invokevirtual 260, 0, 1180), (86, .iload_n 1, 0, 0), (87, .if_icmp .ne 20, 0, 107), (90, .iload 4, 0, 0), (92, .iload 6, 0, 0), (94, .iand, 0, 0), (95, .istore 4, 0, 0)],
  [(97, .iload 5, 0, 0), (99, .iload 6, 0, 0), (101, .ior, 0, 0), (102, .istore 5, 0, 0), (104, .iinc 3 1, 1, 0), (107, .iinc 6 1, 1, 0), (110, .goto (-42), 0, 68)],
  [(113, .iload_n 3, 0, 0), (114, .ifCond .ne 9, 0, 123), (117, .aload_n 0, 0, 0), (118, .iconst 4, 4, 0), (119, .invokevirtual 110, 0, 140), (122, .ireturn, 0, 0), (123, .aload_n 0, 0, 0), (124, .iload_n 2, 0, 0), (125, .iload 5, 0, 0), (127, .iconst (-1), (-1), 0)],
  [(128, .ixor, 0, 0), (129, .iand, 0, 0), (130, .invokevirtual 94, 0, 240), (133, .pop, 0, 0), (134, .iload 4, 0, 0), (136, .ireturn, 0, 0)]]
def qp_k120 : List (List (Nat × Instr × Int32 × Nat)) := [
  [(0, .aload_n 0, 0, 0), (1, .getfield 36, 0, 4), (4, .getfield 134, 0, 400), (7, .iload_n 1, 0, 0), (8, .invokevirtual 152, 0, 520), (11, .ifCond .eq 31, 0, 42), (14, .aload_n 0, 0, 0), (15, .getfield 36, 0, 4)],
  [(18, .getfield 134, 0, 400), (21, .iload_n 2, 0, 0), (22, .invokevirtual 152, 0, 520), (25, .ifCond .eq 17, 0, 42), (28, .iload_n 1, 0, 0), (29, .iload_n 2, 0, 0), (30, .if_icmp .eq 12, 0, 42)],
  [(33, .iload_n 3, 0, 0), (34, .ifCond .lt 8, 0, 42), (37, .iload_n 3, 0, 0), (38, .iconst 2, 2, 0), (39, .if_icmp .le 5, 0, 44), (42, .iconst (-1), (-1), 0), (43, .ireturn, 0, 0), (44, .aload_n 0, 0, 0), (45, .aload_n 0, 0, 0), (46, .getfield 59, 0, 7)],
  [(49, .iload_n 1, 0, 0), (50, .iload_n 2, 0, 0), (51, .iload_n 3, 0, 0), (52, .invokevirtual 263, 0, 1210), (55, .invokevirtual 94, 0, 240), (58, .ireturn, 0, 0)]]
def qp_k121 : List (List (Nat × Instr × Int32 × Nat)) := [
  [(0, .aload_n 0, 0, 0), (1, .iload_n 1, 0, 0), (2, .putfield 13, 0, 801), (5, .aload_n 0, 0, 0), (6, .iload_n 2, 0, 0), (7, .putfield 17, 0, 802), (10, .aload_n 0, 0, 0), (11, .aload_n 0, 0, 0), (12, .getfield 7, 0, 800), (15, .getfield 20, 0, 402)],
  [(18, .iconst 2, 2, 0), (19, .iload_n 3, 0, 0), (20, .imul, 0, 0), (21, .invokevirtual 25, 0, 1220), (24, .ireturn, 0, 0)]]
def qp_k122 : List (List (Nat × Instr × Int32 × Nat)) := [
  [(0, .iload_n 2, 0, 0), (1, .ifCond .gt 41, 0, 42), (4, .aload_n 0, 0, 0), (5, .getfield 7, 0, 800), (8, .iload_n 1, 0, 0), (9, .invokevirtual 29, 0, 530), (12, .aload_n 0, 0, 0), (13, .getfield 7, 0, 800)],
  [(16, .getfield 33, 0, 401), (19, .aload_n 0, 0, 0), (20, .getfield 13, 0, 801), (23, .invokevirtual 37, 0, 640), (26, .aload_n 0, 0, 0), (27, .getfield 7, 0, 800), (30, .getfield 33, 0, 401)],
  [(33, .aload_n 0, 0, 0), (34, .getfield 17, 0, 802), (37, .invokevirtual 37, 0, 640), (40, .isub, 0, 0), (41, .ireturn, 0, 0), (42, .iload_n 2, 0, 0), (43, .iconst 2, 2, 0), (44, .irem, 0, 0), (45, .ifCond .ne 7, 0, 52)],
  [(48, .iconst 1, 1, 0), (49, .goto 4, 0, 53), (52, .iconst 0, 0, 0), (53, .istore_n 3, 0, 0), (54, .iload_n 3, 0, 0), (55, .ifCond .eq 10, 0, 65), (58, .aload_n 0, 0, 0), (59, .getfield 13, 0, 801), (62, .goto 7, 0, 69)],
  [(65, .aload_n 0, 0, 0), (66, .getfield 17, 0, 802), (69, .istore 4, 0, 0), (71, .iconst 0, 0, 0), (72, .istore 5, 0, 0), (74, .iconst 0, 0, 0), (75, .istore 6, 0, 0), (77, .iload 6, 0, 0), (79, .aload_n 0, 0, 0)],
  [(80, .getfield 7, 0, 800), (83, .getfield 43, 0, 400), (86, .getfield 47, 0, 300), (89, .if_icmp .ge 70, 0, 159), (92, .aload_n 0, 0, 0), (93, .iload_n 1, 0, 0), (94, .aload_n 0, 0, 0), (95, .getfield 7, 0, 800)],
  [(98, .getfield 43, 0, 400), (101, .getfield 47, 0, 300), (104, .bipush 8, 8, 0), (106, .iload 4, 0, 0), (108, .imul, 0, 0), (109, .iload 6, 0, 0), (111, .iadd, 0, 0)],
  [(112, .invokestatic 52, 0, 761), (115, .iload_n 2, 0, 0), (116, .iconst 1, 1, 0), (117, .isub, 0, 0), (118, .invokevirtual 25, 0, 1220), (121, .istore 7, 0, 0), (123, .iload 6, 0, 0), (125, .ifCond .eq 24, 0, 149)],
  [(128, .iload_n 3, 0, 0), (129, .ifCond .eq 13, 0, 142), (132, .iload 7, 0, 0), (134, .iload 5, 0, 0), (136, .if_icmp .le 17, 0, 153), (139, .goto 10, 0, 149), (142, .iload 7, 0, 0)],
  [(144, .iload 5, 0, 0), (146, .if_icmp .ge 7, 0, 153), (149, .iload 7, 0, 0), (151, .istore 5, 0, 0), (153, .iinc 6 1, 1, 0), (156, .goto (-79), 0, 77), (159, .iload 5, 0, 0)],
  [(161, .ireturn, 0, 0)]]
def qp_k123 : List (List (Nat × Instr × Int32 × Nat)) := [
  [(0, .aload_n 0, 0, 0), (1, .getfield 36, 0, 4), (4, .getfield 134, 0, 400), (7, .iload_n 1, 0, 0), (8, .invokevirtual 152, 0, 520), (11, .ifCond .eq 13, 0, 24), (14, .iload_n 2, 0, 0), (15, .ifCond .lt 9, 0, 24)],
  [(18, .iload_n 2, 0, 0), (19, .bipush 12, 12, 0), (21, .if_icmp .le 5, 0, 26), (24, .iconst (-1), (-1), 0), (25, .ireturn, 0, 0), (26, .aload_n 0, 0, 0), (27, .aload_n 0, 0, 0), (28, .getfield 66, 0, 8), (31, .iload_n 1, 0, 0)],
  [(32, .iload_n 2, 0, 0), (33, .invokevirtual 266, 0, 1240), (36, .aload_n 0, 0, 0), (37, .getfield 66, 0, 8), (40, .invokevirtual 270, 0, 1280), (43, .invokevirtual 250, 0, 1110), (46, .ireturn, 0, 0)]]
def qp_k124 : List (List (Nat × Instr × Int32 × Nat)) := [
  [(0, .lconst 0, 0, 0), (1, .lstore_n 3, 0, 0), (2, .iconst 0, 0, 0), (3, .istore 5, 0, 0), (5, .iload 5, 0, 0), (7, .iconst 1, 1, 0), (8, .aload_n 0, 0, 0), (9, .getfield 9, 0, 900), (12, .getfield 15, 0, 400), (15, .getfield 21, 0, 300)],
  [(18, .ishl, 0, 0), (19, .if_icmp .ge 39, 0, 58), (22, .aload_n 0, 0, 0), (23, .iload 5, 0, 0), (25, .invokevirtual 31, 0, 1250), (28, .lload_n 3, 0, 0), (29, .aload_n 0, 0, 0), (30, .iload_n 2, 0, 0), (31, .invokevirtual 35, 0, 1260)],
  [(34, .aload_n 0, 0, 0), (35, .getfield 9, 0, 900), (38, .getfield 39, 0, 401), (41, .getfield 43, 0, 501), (44, .iload_n 1, 0, 0), (45, .ishr, 0, 0), (46, .iconst 1, 1, 0), (47, .iand, 0, 0)],
  [(48, .i2l, 0, 0), (49, .lmul, 0, 0), (50, .ladd, 0, 0), (51, .lstore_n 3, 0, 0), (52, .iinc 5 1, 1, 0), (55, .goto (-50), 0, 5), (58, .lload_n 3, 0, 0), (59, .lreturn, 0, 0)]]
def qp_k125 : List (List (Nat × Instr × Int32 × Nat)) := [
  [(0, .iconst 0, 0, 0), (1, .istore_n 2, 0, 0), (2, .aload_n 0, 0, 0), (3, .iconst 0, 0, 0), (4, .putfield 52, 0, 901), (7, .iconst 0, 0, 0), (8, .istore_n 3, 0, 0), (9, .iload_n 3, 0, 0), (10, .aload_n 0, 0, 0), (11, .getfield 9, 0, 900), (14, .getfield 15, 0, 400)],
  [(17, .getfield 21, 0, 300), (20, .if_icmp .ge 53, 0, 73), (23, .aload_n 0, 0, 0), (24, .getfield 9, 0, 900), (27, .getfield 53, 0, 402), (30, .iload_n 3, 0, 0), (31, .invokestatic 56, 0, 551)],
  [(34, .istore 4, 0, 0), (36, .iload_n 1, 0, 0), (37, .iload 4, 0, 0), (39, .ishr, 0, 0), (40, .iconst 1, 1, 0), (41, .iand, 0, 0), (42, .iconst 1, 1, 0), (43, .if_icmp .ne 24, 0, 67), (46, .iload_n 2, 0, 0), (47, .aload_n 0, 0, 0)],
  [(48, .getfield 52, 0, 901), (51, .iload 4, 0, 0), (53, .invokestatic 62, 0, 501), (56, .istore_n 2, 0, 0), (57, .aload_n 0, 0, 0), (58, .dup, 0, 0), (59, .getfield 52, 0, 901), (62, .iconst 1, 1, 0), (63, .iadd, 0, 0)],
  [(64, .putfield 52, 0, 901), (67, .iinc 3 1, 1, 0), (70, .goto (-61), 0, 9), (73, .aload_n 0, 0, 0), (74, .getfield 9, 0, 900), (77, .getfield 39, 0, 401)],
  [(80, .iload_n 2, 0, 0), (81, .aload_n 0, 0, 0), (82, .getfield 52, 0, 901), (85, .aload_n 0, 0, 0), (86, .getfield 9, 0, 900), (89, .getfield 66, 0, 403), (92, .invokevirtual 69, 0, 540), (95, .return_, 0, 0)]]
def qp_k126 : List (List (Nat × Instr × Int32 × Nat)) := [
  [(0, .bipush 12, 12, 0), (2, .iload_n 1, 0, 0), (3, .isub, 0, 0), (4, .aload_n 0, 0, 0), (5, .getfield 52, 0, 901), (8, .invokestatic 27, 0, 1271), (11, .iload_n 1, 0, 0), (12, .aload_n 0, 0, 0), (13, .getfield 9, 0, 900)],
  [(16, .getfield 15, 0, 400), (19, .getfield 21, 0, 300), (22, .aload_n 0, 0, 0), (23, .getfield 52, 0, 901), (26, .isub, 0, 0), (27, .invokestatic 27, 0, 1271), (30, .lmul, 0, 0), (31, .lreturn, 0, 0)]]
def qp_k127 : List (List (Nat × Instr × Int32 × Nat)) := [
  [(0, .lconst 1, 0, 0), (1, .lstore_n 2, 0, 0), (2, .iconst 0, 0, 0), (3, .istore 4, 0, 0), (5, .iload 4, 0, 0), (7, .iload_n 1, 0, 0), (8, .if_icmp .ge 14, 0, 22), (11, .lload_n 2, 0, 0), (12, .iload_n 0, 0, 0), (13, .i2l, 0, 0), (14, .lmul, 0, 0), (15, .lstore_n 2, 0, 0)],
  [(16, .iinc 4 1, 1, 0), (19, .goto (-14), 0, 5), (22, .lload_n 2, 0, 0), (23, .lreturn, 0, 0)]]
def qp_k128 : List (List (Nat × Instr × Int32 × Nat)) := [
  [(0, .bipush 12, 12, 0), (2, .aload_n 0, 0, 0), (3, .getfield 9, 0, 900), (6, .getfield 15, 0, 400), (9, .getfield 21, 0, 300), (12, .invokestatic 27, 0, 1271), (15, .lreturn, 0, 0)]]
def qp_k129 : List (List (Nat × Instr × Int32 × Nat)) := [
  [(0, .iload_n 1, 0, 0), (1, .ifCond .lt 9, 0, 10), (4, .iload_n 1, 0, 0), (5, .bipush 12, 12, 0), (7, .if_icmp .le 5, 0, 12), (10, .iconst (-1), (-1), 0), (11, .ireturn, 0, 0), (12, .aload_n 0, 0, 0), (13, .getfield 36, 0, 4)],
  [(16, .getfield 134, 0, 400), (19, .getfield 148, 0, 300), (22, .ifCond .ne 6, 0, 28), (25, .bipush (-4), (-4), 0), (27, .ireturn, 0, 0), (28, .aload_n 0, 0, 0), (29, .aload_n 0, 0, 0), (30, .getfield 66, 0, 8)],
  [(33, .iload_n 1, 0, 0), (34, .invokevirtual 274, 0, 1300), (37, .aload_n 0, 0, 0), (38, .getfield 66, 0, 8), (41, .invokevirtual 270, 0, 1280), (44, .invokevirtual 250, 0, 1110), (47, .ireturn, 0, 0)]]
def qp_k130 : List (List (Nat × Instr × Int32 × Nat)) := [
  [(0, .lconst 0, 0, 0), (1, .lstore_n 2, 0, 0), (2, .iconst 0, 0, 0), (3, .istore 4, 0, 0), (5, .iload 4, 0, 0), (7, .iconst 1, 1, 0), (8, .aload_n 0, 0, 0), (9, .getfield 9, 0, 900), (12, .getfield 15, 0, 400), (15, .getfield 21, 0, 300)],
  [(18, .ishl, 0, 0), (19, .if_icmp .ge 35, 0, 54), (22, .aload_n 0, 0, 0), (23, .iload 4, 0, 0), (25, .invokevirtual 31, 0, 1250), (28, .lload_n 2, 0, 0), (29, .aload_n 0, 0, 0), (30, .iload_n 1, 0, 0), (31, .invokevirtual 35, 0, 1260)],
  [(34, .aload_n 0, 0, 0), (35, .getfield 9, 0, 900), (38, .getfield 39, 0, 401), (41, .invokevirtual 48, 0, 1310), (44, .i2l, 0, 0), (45, .lmul, 0, 0), (46, .ladd, 0, 0), (47, .lstore_n 2, 0, 0)],
  [(48, .iinc 4 1, 1, 0), (51, .goto (-46), 0, 5), (54, .lload_n 2, 0, 0), (55, .lreturn, 0, 0)]]
def qp_k131 : List (List (Nat × Instr × Int32 × Nat)) := [
  [(0, .aload_n 0, 0, 0), (1, .getfield 32, 0, 504), (4, .ireturn, 0, 0)]]
def qp_k132 : List (List (Nat × Instr × Int32 × Nat)) := [
  [(0, .iload_n 1, 0, 0), (1, .iconst 1, 1, 0), (2, .if_icmp .lt 21, 0, 23), (5, .iload_n 1, 0, 0), (6, .bipush 20, 20, 0), (8, .if_icmp .gt 15, 0, 23), (11, .iload_n 2, 0, 0), (12, .iconst 1, 1, 0), (13, .if_icmp .lt 10, 0, 23)],
  [(16, .iload_n 2, 0, 0), (17, .ldc_w 277, 2147483647, 0), (20, .if_icmp .lt 5, 0, 25), (23, .iconst (-1), (-1), 0), (24, .ireturn, 0, 0), (25, .aload_n 0, 0, 0), (26, .getfield 36, 0, 4), (29, .getfield 134, 0, 400)],
  [(32, .getfield 148, 0, 300), (35, .ifCond .ne 6, 0, 41), (38, .bipush (-4), (-4), 0), (40, .ireturn, 0, 0), (41, .aload_n 0, 0, 0), (42, .getfield 36, 0, 4), (45, .getfield 196, 0, 405)],
  [(48, .iload_n 1, 0, 0), (49, .iadd, 0, 0), (50, .bipush 40, 40, 0), (52, .if_icmp .le 6, 0, 58), (55, .bipush (-2), (-2), 0), (57, .ireturn, 0, 0), (58, .iload_n 2, 0, 0), (59, .i2l, 0, 0), (60, .lstore_n 3, 0, 0), (61, .iconst 0, 0, 0), (62, .istore 5, 0, 0)],
  [(64, .iload 5, 0, 0), (66, .iload_n 1, 0, 0), (67, .if_icmp .ge 28, 0, 95), (70, .lload_n 3, 0, 0), (71, .ldc2_w 278, 0, 0), (74, .lmul, 0, 0), (75, .ldc2_w 280, 0, 0), (78, .lrem, 0, 0), (79, .lstore_n 3, 0, 0)],
  [(80, .aload_n 0, 0, 0), (81, .getfield 36, 0, 4), (84, .lload_n 3, 0, 0), (85, .l2i, 0, 0), (86, .invokevirtual 282, 0, 1330), (89, .iinc 5 1, 1, 0), (92, .goto (-28), 0, 64), (95, .aload_n 0, 0, 0)],
  [(96, .getfield 36, 0, 4), (99, .aload_n 0, 0, 0), (100, .getfield 36, 0, 4), (103, .getfield 153, 0, 402), (106, .invokevirtual 156, 0, 530), (109, .aload_n 0, 0, 0), (110, .getfield 36, 0, 4)],
  [(113, .getfield 172, 0, 401), (116, .invokevirtual 285, 0, 1340), (119, .ireturn, 0, 0)]]
def qp_k133 : List (List (Nat × Instr × Int32 × Nat)) := [
  [(0, .aload_n 0, 0, 0), (1, .getfield 12, 0, 400), (4, .getfield 34, 0, 300), (7, .ifCond .ne 4, 0, 11), (10, .return_, 0, 0), (11, .iload_n 1, 0, 0), (12, .bipush 8, 8, 0), (14, .idiv, 0, 0), (15, .bipush 8, 8, 0)],
  [(17, .irem, 0, 0), (18, .istore_n 2, 0, 0), (19, .iload_n 1, 0, 0), (20, .bipush 64, 64, 0), (22, .idiv, 0, 0), (23, .istore_n 3, 0, 0), (24, .iload_n 2, 0, 0), (25, .bipush 7, 7, 0), (27, .if_icmp .ne 15, 0, 42), (30, .aload_n 0, 0, 0), (31, .iconst 3, 3, 0)],
  [(32, .iload_n 3, 0, 0), (33, .bipush 21, 21, 0), (35, .irem, 0, 0), (36, .invokevirtual 97, 0, 740), (39, .goto 101, 0, 140), (42, .iload_n 2, 0, 0), (43, .bipush 6, 6, 0), (45, .if_icmp .ne 24, 0, 69)],
  [(48, .aload_n 0, 0, 0), (49, .getfield 51, 0, 404), (52, .ifCond .le 17, 0, 69), (55, .aload_n 0, 0, 0), (56, .iconst 2, 2, 0), (57, .iload_n 3, 0, 0), (58, .aload_n 0, 0, 0), (59, .getfield 51, 0, 404), (62, .irem, 0, 0), (63, .invokevirtual 97, 0, 740)],
  [(66, .goto 74, 0, 140), (69, .iload_n 2, 0, 0), (70, .bipush 6, 6, 0), (72, .if_icmp .ge 62, 0, 134), (75, .aload_n 0, 0, 0), (76, .bipush 8, 8, 0), (78, .iload_n 1, 0, 0), (79, .aload_n 0, 0, 0)],
  [(80, .getfield 12, 0, 400), (83, .getfield 34, 0, 300), (86, .irem, 0, 0), (87, .imul, 0, 0), (88, .iload_n 3, 0, 0), (89, .aload_n 0, 0, 0), (90, .getfield 12, 0, 400), (93, .getfield 34, 0, 300)],
  [(96, .irem, 0, 0), (97, .iadd, 0, 0), (98, .invokevirtual 101, 0, 730), (101, .ifCond .eq 33, 0, 134), (104, .aload_n 0, 0, 0), (105, .iconst 1, 1, 0), (106, .bipush 8, 8, 0), (108, .iload_n 1, 0, 0), (109, .aload_n 0, 0, 0), (110, .getfield 12, 0, 400)],
  [(113, .getfield 34, 0, 300), (116, .irem, 0, 0), (117, .imul, 0, 0), (118, .iload_n 3, 0, 0), (119, .aload_n 0, 0, 0), (120, .getfield 12, 0, 400), (123, .getfield 34, 0, 300), (126, .irem, 0, 0), (127, .iadd, 0, 0)],
  [(128, .invokevirtual 97, 0, 740), (131, .goto 9, 0, 140), (134, .aload_n 0, 0, 0), (135, .iconst 0, 0, 0), (136, .iconst 0, 0, 0), (137, .invokevirtual 97, 0, 740), (140, .return_, 0, 0)]]
def qp_k134 : List (List (Nat × Instr × Int32 × Nat)) := [
  [(0, .aload_n 0, 0, 0), (1, .getfield 28, 0, 503), (4, .aload_n 0, 0, 0), (5, .getfield 32, 0, 504), (8, .isub, 0, 0), (9, .ireturn, 0, 0)]]
def qp_k135 : List (List (Nat × Instr × Int32 × Nat)) := [
  [(0, .aload_n 0, 0, 0), (1, .getfield 289, 0, 11), (4, .ireturn, 0, 0)]]
def qp_k136 : List (List (Nat × Instr × Int32 × Nat)) := [
  [(0, .aload_n 0, 0, 0), (1, .getfield 292, 0, 12), (4, .lreturn, 0, 0)]]
def qp_k137 : List (List (Nat × Instr × Int32 × Nat)) := [
  [(0, .aload_n 0, 0, 0), (1, .getfield 74, 0, 13), (4, .lreturn, 0, 0)]]
def qp_k138 : List (List (Nat × Instr × Int32 × Nat)) := [
  [(0, .iload_n 1, 0, 0), (1, .ifCond .lt 9, 0, 10), (4, .iload_n 1, 0, 0), (5, .bipush 11, 11, 0), (7, .if_icmp .le 5, 0, 12), (10, .iconst (-1), (-1), 0), (11, .ireturn, 0, 0), (12, .aload_n 0, 0, 0), (13, .getfield 36, 0, 4)],
  [(16, .aload_n 0, 0, 0), (17, .getfield 36, 0, 4), (20, .getfield 153, 0, 402), (23, .invokevirtual 156, 0, 530), (26, .aload_n 0, 0, 0), (27, .iload_n 1, 0, 0), (28, .invokevirtual 295, 0, 1390), (31, .ireturn, 0, 0)]]
def qp_k139 : List (List (Nat × Instr × Int32 × Nat)) := [
  [(0, .iload_n 1, 0, 0), (1, .tableswitch 167 0 10 #[59, 70, 78, 86, 94, 105, 116, 127, 139, 151, 159], 0, 59)],
  [],
  [],
  [(60, .aload_n 0, 0, 0), (61, .getfield 36, 0, 4)],
  [(64, .getfield 134, 0, 400), (67, .getfield 148, 0, 300), (70, .ireturn, 0, 0), (71, .aload_n 0, 0, 0), (72, .getfield 36, 0, 4), (75, .getfield 209, 0, 403), (78, .ireturn, 0, 0), (79, .aload_n 0, 0, 0)],
  [(80, .getfield 36, 0, 4), (83, .getfield 190, 0, 404), (86, .ireturn, 0, 0), (87, .aload_n 0, 0, 0), (88, .getfield 36, 0, 4), (91, .getfield 196, 0, 405), (94, .ireturn, 0, 0), (95, .aload_n 0, 0, 0)],
  [(96, .getfield 36, 0, 4), (99, .getfield 172, 0, 401), (102, .getfield 328, 0, 500), (105, .ireturn, 0, 0), (106, .aload_n 0, 0, 0), (107, .getfield 36, 0, 4), (110, .getfield 172, 0, 401)],
  [(113, .invokevirtual 285, 0, 1340), (116, .ireturn, 0, 0), (117, .aload_n 0, 0, 0), (118, .getfield 36, 0, 4), (121, .getfield 172, 0, 401), (124, .getfield 331, 0, 501), (127, .ireturn, 0, 0)],
  [(128, .aload_n 0, 0, 0), (129, .getfield 36, 0, 4), (132, .getfield 134, 0, 400), (135, .iconst 1, 1, 0), (136, .invokevirtual 334, 0, 1400), (139, .ireturn, 0, 0), (140, .aload_n 0, 0, 0), (141, .getfield 36, 0, 4)],
  [(144, .getfield 134, 0, 400), (147, .iconst 2, 2, 0), (148, .invokevirtual 334, 0, 1400), (151, .ireturn, 0, 0), (152, .aload_n 0, 0, 0), (153, .getfield 14, 0, 0), (156, .invokevirtual 337, 0, 1410), (159, .ireturn, 0, 0)],
  [(160, .aload_n 0, 0, 0), (161, .getfield 18, 0, 1), (164, .invokevirtual 337, 0, 1410), (167, .ireturn, 0, 0), (168, .aload_n 0, 0, 0), (169, .getfield 21, 0, 2), (172, .invokevirtual 337, 0, 1410), (175, .ireturn, 0, 0)]]
def qp_k140 : List (List (Nat × Instr × Int32 × Nat)) := [
  [(0, .iconst 0, 0, 0), (1, .istore_n 2, 0, 0), (2, .iconst 0, 0, 0), (3, .istore_n 3, 0, 0), (4, .iload_n 3, 0, 0), (5, .aload_n 0, 0, 0), (6, .getfield 18, 0, 300), (9, .if_icmp .ge 24, 0, 33), (12, .aload_n 0, 0, 0), (13, .iload_n 3, 0, 0), (14, .invokevirtual 28, 0, 460)],
  [(17, .iload_n 1, 0, 0), (18, .invokestatic 39, 0, 561), (21, .ifCond .eq 6, 0, 27), (24, .iinc 2 1, 1, 0), (27, .iinc 3 1, 1, 0), (30, .goto (-26), 0, 4)],
  [(33, .iload_n 2, 0, 0), (34, .ireturn, 0, 0)]]
def qp_k141 : List (List (Nat × Instr × Int32 × Nat)) := [
  [(0, .iconst 0, 0, 0), (1, .istore_n 1, 0, 0), (2, .iconst 0, 0, 0), (3, .istore_n 2, 0, 0), (4, .iload_n 2, 0, 0), (5, .aload_n 0, 0, 0), (6, .getfield 19, 0, 101), (9, .arraylength, 0, 0), (10, .if_icmp .ge 20, 0, 30), (13, .aload_n 0, 0, 0), (14, .iload_n 2, 0, 0), (15, .invokevirtual 34, 0, 190)],
  [(18, .ifCond .eq 6, 0, 24), (21, .iinc 1 1, 1, 0), (24, .iinc 2 1, 1, 0), (27, .goto (-23), 0, 4), (30, .iload_n 1, 0, 0), (31, .ireturn, 0, 0)]]
def qp_k142 : List (List (Nat × Instr × Int32 × Nat)) := [
  [(0, .aload_n 0, 0, 0), (1, .getfield 298, 0, 10), (4, .ireturn, 0, 0)]]
def qp_k143 : List (List (Nat × Instr × Int32 × Nat)) := [
  [(0, .iload_n 1, 0, 0), (1, .iconst 1, 1, 0), (2, .if_icmp .lt 17, 0, 19), (5, .iload_n 1, 0, 0), (6, .iconst 5, 5, 0), (7, .if_icmp .gt 12, 0, 19), (10, .aload_n 0, 0, 0), (11, .getfield 70, 0, 9), (14, .iload_n 1, 0, 0), (15, .iaload, 0, 0)],
  [(16, .goto 4, 0, 20), (19, .iconst (-1), (-1), 0), (20, .ireturn, 0, 0)]]
def qp_k144 : List (List (Nat × Instr × Int32 × Nat)) := [
  [(0, .aload_n 0, 0, 0), (1, .getfield 36, 0, 4), (4, .aload_n 0, 0, 0), (5, .getfield 36, 0, 4), (8, .getfield 153, 0, 402), (11, .invokevirtual 156, 0, 530), (14, .ldc2_w 301, 0, 0)],
  [(17, .lstore_n 1, 0, 0), (18, .iconst 0, 0, 0), (19, .istore_n 3, 0, 0), (20, .iload_n 3, 0, 0), (21, .bipush 11, 11, 0), (23, .if_icmp .gt 22, 0, 45), (26, .ldc2_w 303, 0, 0), (29, .lload_n 1, 0, 0), (30, .lmul, 0, 0), (31, .aload_n 0, 0, 0)],
  [(32, .iload_n 3, 0, 0), (33, .invokevirtual 295, 0, 1390), (36, .i2l, 0, 0), (37, .ladd, 0, 0), (38, .lstore_n 1, 0, 0), (39, .iinc 3 1, 1, 0), (42, .goto (-22), 0, 20), (45, .iconst 0, 0, 0), (46, .istore_n 3, 0, 0), (47, .iload_n 3, 0, 0)],
  [(48, .aload_n 0, 0, 0), (49, .getfield 36, 0, 4), (52, .getfield 134, 0, 400), (55, .getfield 148, 0, 300), (58, .if_icmp .ge 40, 0, 98), (61, .iconst 0, 0, 0), (62, .istore 4, 0, 0)],
  [(64, .iload 4, 0, 0), (66, .bipush 6, 6, 0), (68, .if_icmp .gt 24, 0, 92), (71, .ldc2_w 303, 0, 0), (74, .lload_n 1, 0, 0), (75, .lmul, 0, 0), (76, .aload_n 0, 0, 0), (77, .iload_n 3, 0, 0), (78, .iload 4, 0, 0)],
  [(80, .invokevirtual 159, 0, 600), (83, .i2l, 0, 0), (84, .ladd, 0, 0), (85, .lstore_n 1, 0, 0), (86, .iinc 4 1, 1, 0), (89, .goto (-25), 0, 64), (92, .iinc 3 1, 1, 0), (95, .goto (-48), 0, 47)],
  [(98, .iconst 0, 0, 0), (99, .istore_n 3, 0, 0), (100, .iload_n 3, 0, 0), (101, .aload_n 0, 0, 0), (102, .getfield 36, 0, 4), (105, .getfield 190, 0, 404), (108, .if_icmp .ge 47, 0, 155), (111, .ldc2_w 303, 0, 0)],
  [(114, .lload_n 1, 0, 0), (115, .lmul, 0, 0), (116, .aload_n 0, 0, 0), (117, .getfield 36, 0, 4), (120, .iload_n 3, 0, 0), (121, .invokevirtual 226, 0, 900), (124, .bipush 8, 8, 0), (126, .idiv, 0, 0), (127, .i2l, 0, 0)],
  [(128, .ladd, 0, 0), (129, .lstore_n 1, 0, 0), (130, .ldc2_w 303, 0, 0), (133, .lload_n 1, 0, 0), (134, .lmul, 0, 0), (135, .aload_n 0, 0, 0), (136, .getfield 36, 0, 4), (139, .iload_n 3, 0, 0), (140, .invokevirtual 226, 0, 900), (143, .bipush 8, 8, 0)],
  [(145, .irem, 0, 0), (146, .i2l, 0, 0), (147, .ladd, 0, 0), (148, .lstore_n 1, 0, 0), (149, .iinc 3 1, 1, 0), (152, .goto (-52), 0, 100), (155, .iconst 0, 0, 0), (156, .istore_n 3, 0, 0), (157, .iload_n 3, 0, 0), (158, .iconst 3, 3, 0), (159, .if_icmp .ge 25, 0, 184)],
  [(162, .ldc2_w 303, 0, 0), (165, .lload_n 1, 0, 0), (166, .lmul, 0, 0), (167, .aload_n 0, 0, 0), (168, .getfield 21, 0, 2), (171, .iload_n 3, 0, 0), (172, .invokevirtual 124, 0, 200), (175, .i2l, 0, 0)],
  [(176, .ladd, 0, 0), (177, .lstore_n 1, 0, 0), (178, .iinc 3 1, 1, 0), (181, .goto (-24), 0, 157), (184, .aload_n 0, 0, 0), (185, .getfield 18, 0, 1), (188, .aload_n 0, 0, 0), (189, .getfield 14, 0, 0)],
  [(192, .lload_n 1, 0, 0), (193, .invokevirtual 305, 0, 1450), (196, .invokevirtual 305, 0, 1450), (199, .lreturn, 0, 0)]]
def qp_k145 : List (List (Nat × Instr × Int32 × Nat)) := [
  [(0, .lload_n 1, 0, 0), (1, .lstore_n 3, 0, 0), (2, .iconst 0, 0, 0), (3, .istore 5, 0, 0), (5, .iload 5, 0, 0), (7, .aload_n 0, 0, 0), (8, .getfield 19, 0, 101), (11, .arraylength, 0, 0), (12, .if_icmp .ge 59, 0, 71), (15, .ldc2_w 54, 0, 0)],
  [(18, .lload_n 3, 0, 0), (19, .lmul, 0, 0), (20, .aload_n 0, 0, 0), (21, .iload 5, 0, 0), (23, .invokevirtual 30, 0, 200), (26, .i2l, 0, 0), (27, .ladd, 0, 0), (28, .lstore_n 3, 0, 0), (29, .iconst 0, 0, 0), (30, .istore 6, 0, 0)],
  [(32, .iload 6, 0, 0), (34, .aload_n 0, 0, 0), (35, .iload 5, 0, 0), (37, .invokevirtual 30, 0, 200), (40, .if_icmp .ge 25, 0, 65), (43, .ldc2_w 54, 0, 0), (46, .lload_n 3, 0, 0), (47, .lmul, 0, 0)],
  [(48, .aload_n 0, 0, 0), (49, .iload 5, 0, 0), (51, .iload 6, 0, 0), (53, .invokevirtual 51, 0, 220), (56, .i2l, 0, 0), (57, .ladd, 0, 0), (58, .lstore_n 3, 0, 0), (59, .iinc 6 1, 1, 0), (62, .goto (-30), 0, 32)],
  [(65, .iinc 5 1, 1, 0), (68, .goto (-63), 0, 5), (71, .lload_n 3, 0, 0), (72, .lreturn, 0, 0)]]
def qp_k146 : List (List (Nat × Instr × Int32 × Nat)) := [
  [(0, .aload_n 0, 0, 0), (1, .invokespecial 1, 0, 5), (4, .aload_n 0, 0, 0), (5, .bipush 75, 75, 0), (7, .newarray .int, 0, 0), (9, .putfield 7, 0, 1000), (12, .aload_n 0, 0, 0), (13, .sipush 225, 225, 0)],
  [(16, .newarray .int, 0, 0), (18, .putfield 13, 0, 1001), (21, .aload_n 0, 0, 0), (22, .iconst 3, 3, 0), (23, .newarray .boolean, 0, 0), (25, .putfield 16, 0, 1002), (28, .aload_n 0, 0, 0), (29, .sipush 240, 240, 0)],
  [(32, .newarray .int, 0, 0), (34, .putfield 20, 0, 1003), (37, .aload_n 0, 0, 0), (38, .bipush 6, 6, 0), (40, .newarray .int, 0, 0), (42, .putfield 23, 0, 1004), (45, .aload_n 0, 0, 0), (46, .sipush 240, 240, 0)],
  [(49, .newarray .int, 0, 0), (51, .putfield 26, 0, 1005), (54, .aload_n 0, 0, 0), (55, .iconst 4, 4, 0), (56, .newarray .int, 0, 0), (58, .putfield 29, 0, 1006), (61, .aload_n 0, 0, 0), (62, .bipush 6, 6, 0)],
  [(64, .newarray .int, 0, 0), (66, .putfield 32, 0, 1007), (69, .aload_n 0, 0, 0), (70, .lconst 1, 0, 0), (71, .putfield 35, 0, 1011), (74, .aload_n 0, 0, 0), (75, .bipush 40, 40, 0), (77, .newarray .int, 0, 0), (79, .putfield 39, 0, 1012)],
  [(82, .aload_n 0, 0, 0), (83, .bipush 75, 75, 0), (85, .newarray .int, 0, 0), (87, .putfield 42, 0, 1013), (90, .aload_n 0, 0, 0), (91, .bipush 75, 75, 0), (93, .newarray .int, 0, 0), (95, .putfield 45, 0, 1015)],
  [(98, .aload_n 0, 0, 0), (99, .bipush 6, 6, 0), (101, .newarray .int, 0, 0), (103, .putfield 48, 0, 1016), (106, .aload_n 0, 0, 0), (107, .bipush 6, 6, 0), (109, .newarray .int, 0, 0), (111, .putfield 51, 0, 1017)],
  [(114, .aload_n 0, 0, 0), (115, .bipush 6, 6, 0), (117, .newarray .int, 0, 0), (119, .putfield 54, 0, 1018), (122, .aload_n 0, 0, 0), (123, .bipush 6, 6, 0), (125, .newarray .int, 0, 0), (127, .putfield 57, 0, 1019)],
  [(130, .aload_n 0, 0, 0), (131, .iconst 3, 3, 0), (132, .newarray .int, 0, 0), (134, .putfield 60, 0, 1021), (137, .aload_n 0, 0, 0), (138, .bipush 6, 6, 0), (140, .newarray .int, 0, 0), (142, .putfield 63, 0, 1022)],
  [(145, .aload_n 0, 0, 0), (146, .bipush 24, 24, 0), (148, .newarray .int, 0, 0), (150, .putfield 66, 0, 1023), (153, .aload_n 0, 0, 0), (154, .iconst 4, 4, 0), (155, .newarray .int, 0, 0), (157, .putfield 69, 0, 1024)],
  [(160, .aload_n 0, 0, 0), (161, .iconst 4, 4, 0), (162, .newarray .int, 0, 0), (164, .putfield 72, 0, 1025), (167, .aload_n 0, 0, 0), (168, .bipush 6, 6, 0), (170, .newarray .int, 0, 0), (172, .putfield 75, 0, 1026), (175, .iconst 0, 0, 0)],
  [(176, .istore_n 1, 0, 0), (177, .iload_n 1, 0, 0), (178, .bipush 6, 6, 0), (180, .if_icmp .ge 16, 0, 196), (183, .aload_n 0, 0, 0), (184, .getfield 23, 0, 1004), (187, .iload_n 1, 0, 0), (188, .iconst (-1), (-1), 0), (189, .iastore, 0, 0), (190, .iinc 1 1, 1, 0)],
  [(193, .goto (-16), 0, 177), (196, .iconst 0, 0, 0), (197, .istore_n 1, 0, 0), (198, .iload_n 1, 0, 0), (199, .iconst 4, 4, 0), (200, .if_icmp .ge 16, 0, 216), (203, .aload_n 0, 0, 0), (204, .getfield 29, 0, 1006), (207, .iload_n 1, 0, 0)],
  [(208, .iconst (-1), (-1), 0), (209, .iastore, 0, 0), (210, .iinc 1 1, 1, 0), (213, .goto (-15), 0, 198), (216, .return_, 0, 0)]]
def qp_k147 : List (List (Nat × Instr × Int32 × Nat)) := [
  [(0, .iload_n 1, 0, 0), (1, .invokestatic 93, 0, 1481), (4, .ifCond .eq 9, 0, 13), (7, .iload_n 2, 0, 0), (8, .bipush 40, 40, 0), (10, .if_icmp .le 5, 0, 15), (13, .iconst (-1), (-1), 0), (14, .ireturn, 0, 0), (15, .iload_n 2, 0, 0)],
  [(16, .ifCond .ge 9, 0, 25), (19, .aload_n 0, 0, 0), (20, .iconst 5, 5, 0), (21, .invokevirtual 97, 0, 1500), (24, .ireturn, 0, 0), (25, .aload_n 0, 0, 0), (26, .getfield 23, 0, 1004), (29, .iload_n 1, 0, 0), (30, .iload_n 2, 0, 0), (31, .iastore, 0, 0)],
  [(32, .iconst 0, 0, 0), (33, .istore_n 3, 0, 0), (34, .iload_n 3, 0, 0), (35, .iload_n 2, 0, 0), (36, .if_icmp .ge 21, 0, 57), (39, .aload_n 0, 0, 0), (40, .getfield 20, 0, 1003), (43, .bipush 40, 40, 0), (45, .iload_n 1, 0, 0), (46, .imul, 0, 0), (47, .iload_n 3, 0, 0)],
  [(48, .iadd, 0, 0), (49, .iconst 0, 0, 0), (50, .iastore, 0, 0), (51, .iinc 3 1, 1, 0), (54, .goto (-20), 0, 34), (57, .iload_n 2, 0, 0), (58, .ireturn, 0, 0)]]
def qp_k148 : List (List (Nat × Instr × Int32 × Nat)) := [
  [(0, .iload_n 0, 0, 0), (1, .i2l, 0, 0), (2, .lconst 0, 0, 0), (3, .ldc2_w 85, 0, 0), (6, .invokestatic 87, 0, 1491), (9, .ireturn, 0, 0)]]
def qp_k149 : List (List (Nat × Instr × Int32 × Nat)) := [
  [(0, .lload_n 0, 0, 0), (1, .lload_n 2, 0, 0), (2, .lcmp, 0, 0), (3, .ifCond .lt 14, 0, 17), (6, .lload_n 0, 0, 0), (7, .lload 4, 0, 0), (9, .lcmp, 0, 0), (10, .ifCond .gt 7, 0, 17), (13, .iconst 1, 1, 0), (14, .goto 4, 0, 18)],
  [(17, .iconst 0, 0, 0), (18, .ireturn, 0, 0)]]
def qp_k150 : List (List (Nat × Instr × Int32 × Nat)) := [
  [(0, .aload_n 0, 0, 0), (1, .iload_n 1, 0, 0), (2, .putfield 78, 0, 1008), (5, .aload_n 0, 0, 0), (6, .getfield 32, 0, 1007), (9, .iload_n 1, 0, 0), (10, .dup2, 0, 0), (11, .iaload, 0, 0), (12, .iconst 1, 1, 0), (13, .iadd, 0, 0), (14, .iastore, 0, 0), (15, .bipush (-3), (-3), 0)],
  [(17, .ireturn, 0, 0)]]
def qp_k151 : List (List (Nat × Instr × Int32 × Nat)) := [
  [(0, .aload_n 0, 0, 0), (1, .iload_n 1, 0, 0), (2, .iload_n 2, 0, 0), (3, .invokevirtual 101, 0, 1520), (6, .istore 4, 0, 0), (8, .iload 4, 0, 0), (10, .iconst 1, 1, 0), (11, .if_icmp .ne 15, 0, 26), (14, .aload_n 0, 0, 0), (15, .getfield 20, 0, 1003)],
  [(18, .bipush 40, 40, 0), (20, .iload_n 1, 0, 0), (21, .imul, 0, 0), (22, .iload_n 2, 0, 0), (23, .iadd, 0, 0), (24, .iload_n 3, 0, 0), (25, .iastore, 0, 0), (26, .iload 4, 0, 0), (28, .ireturn, 0, 0)]]
def qp_k152 : List (List (Nat × Instr × Int32 × Nat)) := [
  [(0, .iload_n 1, 0, 0), (1, .invokestatic 93, 0, 1481), (4, .ifCond .ne 5, 0, 9), (7, .iconst (-1), (-1), 0), (8, .ireturn, 0, 0), (9, .aload_n 0, 0, 0), (10, .getfield 23, 0, 1004), (13, .iload_n 1, 0, 0), (14, .iaload, 0, 0), (15, .ifCond .ge 9, 0, 24)],
  [(18, .aload_n 0, 0, 0), (19, .iconst 1, 1, 0), (20, .invokevirtual 97, 0, 1500), (23, .ireturn, 0, 0), (24, .iload_n 2, 0, 0), (25, .i2l, 0, 0), (26, .lconst 0, 0, 0), (27, .aload_n 0, 0, 0), (28, .getfield 23, 0, 1004), (31, .iload_n 1, 0, 0)],
  [(32, .iaload, 0, 0), (33, .iconst 1, 1, 0), (34, .isub, 0, 0), (35, .i2l, 0, 0), (36, .invokestatic 87, 0, 1491), (39, .ifCond .eq 21, 0, 60), (42, .aload_n 0, 0, 0), (43, .aload_n 0, 0, 0), (44, .getfield 20, 0, 1003), (47, .bipush 40, 40, 0)],
  [(49, .iload_n 1, 0, 0), (50, .imul, 0, 0), (51, .iload_n 2, 0, 0), (52, .iadd, 0, 0), (53, .iaload, 0, 0), (54, .invokevirtual 105, 0, 1530), (57, .goto 8, 0, 65), (60, .aload_n 0, 0, 0), (61, .iconst 2, 2, 0), (62, .invokevirtual 97, 0, 1500)],
  [(65, .ireturn, 0, 0)]]
def qp_k153 : List (List (Nat × Instr × Int32 × Nat)) := [
  [(0, .aload_n 0, 0, 0), (1, .iload_n 1, 0, 0), (2, .putfield 82, 0, 1009), (5, .iconst 1, 1, 0), (6, .ireturn, 0, 0)]]
def qp_k154 : List (List (Nat × Instr × Int32 × Nat)) := [
  [(0, .iload_n 1, 0, 0), (1, .invokestatic 93, 0, 1481), (4, .ifCond .ne 5, 0, 9), (7, .iconst (-1), (-1), 0), (8, .ireturn, 0, 0), (9, .aload_n 0, 0, 0), (10, .getfield 23, 0, 1004), (13, .iload_n 1, 0, 0), (14, .iaload, 0, 0), (15, .ifCond .ge 9, 0, 24)],
  [(18, .aload_n 0, 0, 0), (19, .iconst 1, 1, 0), (20, .invokevirtual 97, 0, 1500), (23, .ireturn, 0, 0), (24, .aload_n 0, 0, 0), (25, .getfield 23, 0, 1004), (28, .iload_n 1, 0, 0), (29, .iconst (-1), (-1), 0), (30, .iastore, 0, 0), (31, .iconst 1, 1, 0)],
  [(32, .ireturn, 0, 0)]]
def qp_k155 : List (List (Nat × Instr × Int32 × Nat)) := [
  [(0, .iload_n 1, 0, 0), (1, .invokestatic 93, 0, 1481), (4, .ifCond .eq 10, 0, 14), (7, .iload_n 3, 0, 0), (8, .invokestatic 93, 0, 1481), (11, .ifCond .ne 5, 0, 16), (14, .iconst (-1), (-1), 0), (15, .ireturn, 0, 0)],
  [(16, .iload 5, 0, 0), (18, .ifCond .ge 9, 0, 27), (21, .aload_n 0, 0, 0), (22, .iconst 5, 5, 0), (23, .invokevirtual 97, 0, 1500), (26, .ireturn, 0, 0), (27, .aload_n 0, 0, 0), (28, .getfield 23, 0, 1004), (31, .iload_n 1, 0, 0)],
  [(32, .iaload, 0, 0), (33, .ifCond .lt 12, 0, 45), (36, .aload_n 0, 0, 0), (37, .getfield 23, 0, 1004), (40, .iload_n 3, 0, 0), (41, .iaload, 0, 0), (42, .ifCond .ge 9, 0, 51), (45, .aload_n 0, 0, 0), (46, .iconst 1, 1, 0), (47, .invokevirtual 97, 0, 1500)],
  [(50, .ireturn, 0, 0), (51, .iload_n 2, 0, 0), (52, .i2l, 0, 0), (53, .lconst 0, 0, 0), (54, .aload_n 0, 0, 0), (55, .getfield 23, 0, 1004), (58, .iload_n 1, 0, 0), (59, .iaload, 0, 0), (60, .i2l, 0, 0), (61, .iload 5, 0, 0), (63, .i2l, 0, 0)],
  [(64, .lsub, 0, 0), (65, .invokestatic 87, 0, 1491), (68, .ifCond .eq 24, 0, 92), (71, .iload 4, 0, 0), (73, .i2l, 0, 0), (74, .lconst 0, 0, 0), (75, .aload_n 0, 0, 0), (76, .getfield 23, 0, 1004), (79, .iload_n 3, 0, 0)],
  [(80, .iaload, 0, 0), (81, .i2l, 0, 0), (82, .iload 5, 0, 0), (84, .i2l, 0, 0), (85, .lsub, 0, 0), (86, .invokestatic 87, 0, 1491), (89, .ifCond .ne 9, 0, 98), (92, .aload_n 0, 0, 0), (93, .iconst 2, 2, 0), (94, .invokevirtual 97, 0, 1500)],
  [(97, .ireturn, 0, 0), (98, .iconst 0, 0, 0), (99, .istore 6, 0, 0), (101, .iload 6, 0, 0), (103, .iload 5, 0, 0), (105, .if_icmp .ge 30, 0, 135), (108, .aload_n 0, 0, 0), (109, .getfield 39, 0, 1012)],
  [(112, .iload 6, 0, 0), (114, .aload_n 0, 0, 0), (115, .getfield 20, 0, 1003), (118, .bipush 40, 40, 0), (120, .iload_n 1, 0, 0), (121, .imul, 0, 0), (122, .iload_n 2, 0, 0), (123, .iadd, 0, 0), (124, .iload 6, 0, 0), (126, .iadd, 0, 0), (127, .iaload, 0, 0)],
  [(128, .iastore, 0, 0), (129, .iinc 6 1, 1, 0), (132, .goto (-31), 0, 101), (135, .iconst 0, 0, 0), (136, .istore 6, 0, 0), (138, .iload 6, 0, 0), (140, .iload 5, 0, 0), (142, .if_icmp .ge 31, 0, 173)],
  [(145, .aload_n 0, 0, 0), (146, .getfield 20, 0, 1003), (149, .bipush 40, 40, 0), (151, .iload_n 3, 0, 0), (152, .imul, 0, 0), (153, .iload 4, 0, 0), (155, .iadd, 0, 0), (156, .iload 6, 0, 0), (158, .iadd, 0, 0), (159, .aload_n 0, 0, 0)],
  [(160, .getfield 39, 0, 1012), (163, .iload 6, 0, 0), (165, .iaload, 0, 0), (166, .iastore, 0, 0), (167, .iinc 6 1, 1, 0), (170, .goto (-32), 0, 138), (173, .iconst 1, 1, 0), (174, .ireturn, 0, 0)]]
def qp_k156 : List (List (Nat × Instr × Int32 × Nat)) := [
  [(0, .iload_n 1, 0, 0), (1, .invokestatic 93, 0, 1481), (4, .ifCond .ne 5, 0, 9), (7, .iconst (-1), (-1), 0), (8, .ireturn, 0, 0), (9, .aload_n 0, 0, 0), (10, .getfield 23, 0, 1004), (13, .iload_n 1, 0, 0), (14, .iaload, 0, 0), (15, .ifCond .ge 9, 0, 24)],
  [(18, .aload_n 0, 0, 0), (19, .iconst 1, 1, 0), (20, .invokevirtual 97, 0, 1500), (23, .ireturn, 0, 0), (24, .aload_n 0, 0, 0), (25, .getfield 23, 0, 1004), (28, .iload_n 1, 0, 0), (29, .iaload, 0, 0), (30, .ifCond .ne 9, 0, 39)],
  [(33, .aload_n 0, 0, 0), (34, .iconst 4, 4, 0), (35, .invokevirtual 97, 0, 1500), (38, .ireturn, 0, 0), (39, .lconst 0, 0, 0), (40, .lstore_n 2, 0, 0), (41, .iconst 0, 0, 0), (42, .istore 4, 0, 0), (44, .iload 4, 0, 0), (46, .aload_n 0, 0, 0), (47, .getfield 23, 0, 1004)],
  [(50, .iload_n 1, 0, 0), (51, .iaload, 0, 0), (52, .if_icmp .ge 25, 0, 77), (55, .lload_n 2, 0, 0), (56, .aload_n 0, 0, 0), (57, .getfield 20, 0, 1003), (60, .bipush 40, 40, 0), (62, .iload_n 1, 0, 0), (63, .imul, 0, 0)],
  [(64, .iload 4, 0, 0), (66, .iadd, 0, 0), (67, .iaload, 0, 0), (68, .i2l, 0, 0), (69, .ladd, 0, 0), (70, .lstore_n 2, 0, 0), (71, .iinc 4 1, 1, 0), (74, .goto (-30), 0, 44), (77, .aload_n 0, 0, 0), (78, .lload_n 2, 0, 0), (79, .aload_n 0, 0, 0)],
  [(80, .getfield 23, 0, 1004), (83, .iload_n 1, 0, 0), (84, .iaload, 0, 0), (85, .i2l, 0, 0), (86, .ldiv, 0, 0), (87, .l2i, 0, 0), (88, .invokevirtual 105, 0, 1530), (91, .ireturn, 0, 0)]]
def qp_k157 : List (List (Nat × Instr × Int32 × Nat)) := [
  [(0, .iload_n 1, 0, 0), (1, .invokestatic 108, 0, 1581), (4, .ifCond .eq 9, 0, 13), (7, .iload_n 2, 0, 0), (8, .bipush 60, 60, 0), (10, .if_icmp .le 5, 0, 15), (13, .iconst (-1), (-1), 0), (14, .ireturn, 0, 0), (15, .iload_n 2, 0, 0)],
  [(16, .ifCond .ge 9, 0, 25), (19, .aload_n 0, 0, 0), (20, .iconst 5, 5, 0), (21, .invokevirtual 97, 0, 1500), (24, .ireturn, 0, 0), (25, .aload_n 0, 0, 0), (26, .getfield 29, 0, 1006), (29, .iload_n 1, 0, 0), (30, .iload_n 2, 0, 0), (31, .iastore, 0, 0)],
  [(32, .iconst 0, 0, 0), (33, .istore_n 3, 0, 0), (34, .iload_n 3, 0, 0), (35, .iload_n 2, 0, 0), (36, .if_icmp .ge 22, 0, 58), (39, .aload_n 0, 0, 0), (40, .getfield 26, 0, 1005), (43, .bipush 60, 60, 0), (45, .iload_n 1, 0, 0), (46, .imul, 0, 0), (47, .iload_n 3, 0, 0)],
  [(48, .iadd, 0, 0), (49, .bipush 32, 32, 0), (51, .iastore, 0, 0), (52, .iinc 3 1, 1, 0), (55, .goto (-21), 0, 34), (58, .iload_n 2, 0, 0), (59, .ireturn, 0, 0)]]
def qp_k158 : List (List (Nat × Instr × Int32 × Nat)) := [
  [(0, .iload_n 0, 0, 0), (1, .i2l, 0, 0), (2, .lconst 0, 0, 0), (3, .ldc2_w 91, 0, 0), (6, .invokestatic 87, 0, 1491), (9, .ireturn, 0, 0)]]
def qp_k159 : List (List (Nat × Instr × Int32 × Nat)) := [
  [(0, .iload_n 1, 0, 0), (1, .invokestatic 108, 0, 1581), (4, .ifCond .ne 5, 0, 9), (7, .iconst (-1), (-1), 0), (8, .ireturn, 0, 0), (9, .aload_n 0, 0, 0), (10, .getfield 29, 0, 1006), (13, .iload_n 1, 0, 0), (14, .iaload, 0, 0), (15, .ifCond .ge 9, 0, 24)],
  [(18, .aload_n 0, 0, 0), (19, .iconst 1, 1, 0), (20, .invokevirtual 97, 0, 1500), (23, .ireturn, 0, 0), (24, .iload_n 2, 0, 0), (25, .i2l, 0, 0), (26, .lconst 0, 0, 0), (27, .aload_n 0, 0, 0), (28, .getfield 29, 0, 1006), (31, .iload_n 1, 0, 0)],
  [(32, .iaload, 0, 0), (33, .iconst 1, 1, 0), (34, .isub, 0, 0), (35, .i2l, 0, 0), (36, .invokestatic 87, 0, 1491), (39, .ifCond .ne 9, 0, 48), (42, .aload_n 0, 0, 0), (43, .iconst 2, 2, 0), (44, .invokevirtual 97, 0, 1500), (47, .ireturn, 0, 0)],
  [(48, .aload_n 0, 0, 0), (49, .getfield 26, 0, 1005), (52, .bipush 60, 60, 0), (54, .iload_n 1, 0, 0), (55, .imul, 0, 0), (56, .iload_n 2, 0, 0), (57, .iadd, 0, 0), (58, .iaload, 0, 0), (59, .istore 4, 0, 0), (61, .iload_n 3, 0, 0), (62, .sipush 255, 255, 0)],
  [(65, .iand, 0, 0), (66, .istore 5, 0, 0), (68, .aload_n 0, 0, 0), (69, .getfield 26, 0, 1005), (72, .bipush 60, 60, 0), (74, .iload_n 1, 0, 0), (75, .imul, 0, 0), (76, .iload_n 2, 0, 0), (77, .iadd, 0, 0), (78, .iload 5, 0, 0)],
  [(80, .bipush 127, 127, 0), (82, .if_icmp .le 12, 0, 94), (85, .iload 5, 0, 0), (87, .sipush 256, 256, 0), (90, .isub, 0, 0), (91, .goto 5, 0, 96), (94, .iload 5, 0, 0)],
  [(96, .iastore, 0, 0), (97, .iload 4, 0, 0), (99, .sipush 1000, 1000, 0), (102, .iadd, 0, 0), (103, .ireturn, 0, 0)]]
def qp_k160 : List (List (Nat × Instr × Int32 × Nat)) := [
  [(0, .iload_n 1, 0, 0), (1, .invokestatic 108, 0, 1581), (4, .ifCond .ne 5, 0, 9), (7, .iconst (-1), (-1), 0), (8, .ireturn, 0, 0), (9, .aload_n 0, 0, 0), (10, .getfield 29, 0, 1006), (13, .iload_n 1, 0, 0), (14, .iaload, 0, 0), (15, .ifCond .ge 11, 0, 26)],
  [(18, .aload_n 0, 0, 0), (19, .iconst 1, 1, 0), (20, .invokevirtual 97, 0, 1500), (23, .goto 8, 0, 31), (26, .aload_n 0, 0, 0), (27, .iload_n 1, 0, 0), (28, .invokevirtual 136, 0, 1610), (31, .ireturn, 0, 0)]]
def qp_k161 : List (List (Nat × Instr × Int32 × Nat)) := [
  [(0, .aload_n 0, 0, 0), (1, .iconst 0, 0, 0), (2, .putfield 111, 0, 1014), (5, .aload_n 0, 0, 0), (6, .getfield 42, 0, 1013), (9, .iconst 0, 0, 0), (10, .iconst 0, 0, 0), (11, .iastore, 0, 0), (12, .aload_n 0, 0, 0), (13, .iload_n 1, 0, 0), (14, .invokevirtual 130, 0, 1620)],
  [(17, .istore_n 2, 0, 0), (18, .iload_n 2, 0, 0), (19, .ifCond .eq 8, 0, 27), (22, .aload_n 0, 0, 0), (23, .iload_n 1, 0, 0), (24, .invokevirtual 119, 0, 1630), (27, .iload_n 2, 0, 0), (28, .ifCond .eq 34, 0, 62), (31, .aload_n 0, 0, 0)],
  [(32, .getfield 111, 0, 1014), (35, .aload_n 0, 0, 0), (36, .getfield 29, 0, 1006), (39, .iload_n 1, 0, 0), (40, .iaload, 0, 0), (41, .if_icmp .ge 21, 0, 62), (44, .aload_n 0, 0, 0), (45, .iload_n 1, 0, 0), (46, .invokevirtual 133, 0, 1660)],
  [(49, .istore_n 2, 0, 0), (50, .iload_n 2, 0, 0), (51, .ifCond .eq (-24), 0, 27), (54, .aload_n 0, 0, 0), (55, .iload_n 1, 0, 0), (56, .invokevirtual 119, 0, 1630), (59, .goto (-32), 0, 27), (62, .iload_n 2, 0, 0), (63, .ifCond .eq 17, 0, 80)],
  [(66, .aload_n 0, 0, 0), (67, .getfield 42, 0, 1013), (70, .iconst 0, 0, 0), (71, .iaload, 0, 0), (72, .ifCond .le 8, 0, 80), (75, .bipush (-9), (-9), 0), (77, .goto 7, 0, 84)],
  [(80, .aload_n 0, 0, 0), (81, .getfield 111, 0, 1014), (84, .ireturn, 0, 0)]]
def qp_k162 : List (List (Nat × Instr × Int32 × Nat)) := [
  [(0, .aload_n 0, 0, 0), (1, .iload_n 1, 0, 0), (2, .invokevirtual 119, 0, 1630), (5, .aload_n 0, 0, 0), (6, .iload_n 1, 0, 0), (7, .invokevirtual 114, 0, 1640), (10, .bipush 113, 113, 0), (12, .if_icmp .eq 5, 0, 17), (15, .iconst 0, 0, 0)],
  [(16, .ireturn, 0, 0), (17, .aload_n 0, 0, 0), (18, .dup, 0, 0), (19, .getfield 111, 0, 1014), (22, .iconst 1, 1, 0), (23, .iadd, 0, 0), (24, .putfield 111, 0, 1014), (27, .aload_n 0, 0, 0), (28, .getfield 111, 0, 1014), (31, .istore_n 2, 0, 0)],
  [(32, .aload_n 0, 0, 0), (33, .iload_n 1, 0, 0), (34, .iconst 1, 1, 0), (35, .iconst 0, 0, 0), (36, .invokevirtual 123, 0, 1650), (39, .ifCond .ne 5, 0, 44), (42, .iconst 0, 0, 0), (43, .ireturn, 0, 0), (44, .aload_n 0, 0, 0), (45, .getfield 42, 0, 1013)],
  [(48, .iconst 1, 1, 0), (49, .iaload, 0, 0), (50, .istore_n 3, 0, 0), (51, .aload_n 0, 0, 0), (52, .iload_n 1, 0, 0), (53, .iconst 1, 1, 0), (54, .iconst 0, 0, 0), (55, .invokevirtual 123, 0, 1650), (58, .ifCond .ne 5, 0, 63), (61, .iconst 0, 0, 0), (62, .ireturn, 0, 0), (63, .aload_n 0, 0, 0)],
  [(64, .getfield 42, 0, 1013), (67, .iconst 1, 1, 0), (68, .dup2, 0, 0), (69, .iaload, 0, 0), (70, .bipush 10, 10, 0), (72, .iload_n 3, 0, 0), (73, .imul, 0, 0), (74, .iadd, 0, 0), (75, .iastore, 0, 0), (76, .aload_n 0, 0, 0), (77, .aload_n 0, 0, 0), (78, .getfield 42, 0, 1013)],
  [(81, .iconst 1, 1, 0), (82, .iaload, 0, 0), (83, .bipush 20, 20, 0), (85, .if_icmp .le 7, 0, 92), (88, .iload_n 2, 0, 0), (89, .goto 7, 0, 96), (92, .aload_n 0, 0, 0), (93, .getfield 111, 0, 1014)],
  [(96, .putfield 111, 0, 1014), (99, .aload_n 0, 0, 0), (100, .getfield 42, 0, 1013), (103, .iconst 1, 1, 0), (104, .iaload, 0, 0), (105, .bipush 20, 20, 0), (107, .if_icmp .gt 7, 0, 114), (110, .iconst 1, 1, 0), (111, .goto 4, 0, 115)],
  [(114, .iconst 0, 0, 0), (115, .ireturn, 0, 0)]]
def qp_k163 : List (List (Nat × Instr × Int32 × Nat)) := [
  [(0, .aload_n 0, 0, 0), (1, .iload_n 1, 0, 0), (2, .invokevirtual 114, 0, 1640), (5, .bipush 32, 32, 0), (7, .if_icmp .ne 16, 0, 23), (10, .aload_n 0, 0, 0), (11, .dup, 0, 0), (12, .getfield 111, 0, 1014), (15, .iconst 1, 1, 0)],
  [(16, .iadd, 0, 0), (17, .putfield 111, 0, 1014), (20, .goto (-20), 0, 0), (23, .return_, 0, 0)]]
def qp_k164 : List (List (Nat × Instr × Int32 × Nat)) := [
  [(0, .aload_n 0, 0, 0), (1, .getfield 111, 0, 1014), (4, .aload_n 0, 0, 0), (5, .getfield 29, 0, 1006), (8, .iload_n 1, 0, 0), (9, .iaload, 0, 0), (10, .if_icmp .ge 20, 0, 30), (13, .aload_n 0, 0, 0), (14, .getfield 26, 0, 1005)],
  [(17, .bipush 60, 60, 0), (19, .iload_n 1, 0, 0), (20, .imul, 0, 0), (21, .aload_n 0, 0, 0), (22, .getfield 111, 0, 1014), (25, .iadd, 0, 0), (26, .iaload, 0, 0), (27, .goto 5, 0, 32), (30, .bipush (-9), (-9), 0)],
  [(32, .ireturn, 0, 0)]]
def qp_k165 : List (List (Nat × Instr × Int32 × Nat)) := [
  [(0, .aload_n 0, 0, 0), (1, .iload_n 1, 0, 0), (2, .invokevirtual 114, 0, 1640), (5, .istore 4, 0, 0), (7, .iload 4, 0, 0), (9, .i2l, 0, 0), (10, .bipush 48, 48, 0), (12, .iload_n 3, 0, 0), (13, .iadd, 0, 0), (14, .i2l, 0, 0), (15, .ldc2_w 117, 0, 0)],
  [(18, .invokestatic 87, 0, 1491), (21, .ifCond .ne 5, 0, 26), (24, .iconst 0, 0, 0), (25, .ireturn, 0, 0), (26, .aload_n 0, 0, 0), (27, .getfield 42, 0, 1013), (30, .iload_n 2, 0, 0), (31, .iload 4, 0, 0)],
  [(33, .bipush 48, 48, 0), (35, .isub, 0, 0), (36, .iastore, 0, 0), (37, .aload_n 0, 0, 0), (38, .dup, 0, 0), (39, .getfield 111, 0, 1014), (42, .iconst 1, 1, 0), (43, .iadd, 0, 0), (44, .putfield 111, 0, 1014), (47, .iconst 1, 1, 0)],
  [(48, .ireturn, 0, 0)]]
def qp_k166 : List (List (Nat × Instr × Int32 × Nat)) := [
  [(0, .aload_n 0, 0, 0), (1, .getfield 42, 0, 1013), (4, .iconst 0, 0, 0), (5, .iaload, 0, 0), (6, .istore_n 2, 0, 0), (7, .aload_n 0, 0, 0), (8, .iload_n 1, 0, 0), (9, .invokevirtual 114, 0, 1640), (12, .invokestatic 127, 0, 1671), (15, .istore_n 3, 0, 0)],
  [(16, .iload_n 3, 0, 0), (17, .bipush (-9), (-9), 0), (19, .if_icmp .eq 9, 0, 28), (22, .iload_n 2, 0, 0), (23, .bipush 6, 6, 0), (25, .if_icmp .ne 5, 0, 30), (28, .iconst 0, 0, 0), (29, .ireturn, 0, 0), (30, .aload_n 0, 0, 0), (31, .getfield 42, 0, 1013)],
  [(34, .iconst 2, 2, 0), (35, .iload_n 2, 0, 0), (36, .iadd, 0, 0), (37, .iload_n 3, 0, 0), (38, .iastore, 0, 0), (39, .aload_n 0, 0, 0), (40, .dup, 0, 0), (41, .getfield 111, 0, 1014), (44, .iconst 1, 1, 0), (45, .iadd, 0, 0), (46, .putfield 111, 0, 1014)],
  [(49, .aload_n 0, 0, 0), (50, .iload_n 1, 0, 0), (51, .bipush 8, 8, 0), (53, .iload_n 2, 0, 0), (54, .iadd, 0, 0), (55, .iconst 1, 1, 0), (56, .invokevirtual 123, 0, 1650), (59, .ifCond .ne 5, 0, 64), (62, .iconst 0, 0, 0), (63, .ireturn, 0, 0)],
  [(64, .aload_n 0, 0, 0), (65, .getfield 42, 0, 1013), (68, .iconst 0, 0, 0), (69, .dup2, 0, 0), (70, .iaload, 0, 0), (71, .iconst 1, 1, 0), (72, .iadd, 0, 0), (73, .iastore, 0, 0), (74, .iconst 1, 1, 0), (75, .ireturn, 0, 0)]]
def qp_k167 : List (List (Nat × Instr × Int32 × Nat)) := [
  [(0, .iload_n 0, 0, 0), (1, .bipush 112, 112, 0), (3, .if_icmp .ne 7, 0, 10), (6, .iconst 0, 0, 0), (7, .goto 55, 0, 62), (10, .iload_n 0, 0, 0), (11, .bipush 115, 115, 0), (13, .if_icmp .ne 7, 0, 20)],
  [(16, .iconst 1, 1, 0), (17, .goto 45, 0, 62), (20, .iload_n 0, 0, 0), (21, .bipush 99, 99, 0), (23, .if_icmp .ne 7, 0, 30), (26, .iconst 2, 2, 0), (27, .goto 35, 0, 62), (30, .iload_n 0, 0, 0), (31, .bipush 117, 117, 0)],
  [(33, .if_icmp .ne 7, 0, 40), (36, .iconst 3, 3, 0), (37, .goto 25, 0, 62), (40, .iload_n 0, 0, 0), (41, .bipush 103, 103, 0), (43, .if_icmp .ne 7, 0, 50), (46, .iconst 4, 4, 0), (47, .goto 15, 0, 62)],
  [(50, .iload_n 0, 0, 0), (51, .bipush 111, 111, 0), (53, .if_icmp .ne 7, 0, 60), (56, .iconst 5, 5, 0), (57, .goto 5, 0, 62), (60, .bipush (-9), (-9), 0), (62, .ireturn, 0, 0)]]
def qp_k168 : List (List (Nat × Instr × Int32 × Nat)) := [
  [(0, .iload_n 1, 0, 0), (1, .invokestatic 108, 0, 1581), (4, .ifCond .ne 5, 0, 9), (7, .iconst (-1), (-1), 0), (8, .ireturn, 0, 0), (9, .aload_n 0, 0, 0), (10, .getfield 29, 0, 1006), (13, .iload_n 1, 0, 0), (14, .iaload, 0, 0), (15, .ifCond .ge 9, 0, 24)],
  [(18, .aload_n 0, 0, 0), (19, .iconst 1, 1, 0), (20, .invokevirtual 97, 0, 1500), (23, .ireturn, 0, 0), (24, .aload_n 0, 0, 0), (25, .iload_n 1, 0, 0), (26, .invokevirtual 136, 0, 1610), (29, .bipush (-9), (-9), 0), (31, .if_icmp .eq 6, 0, 37)],
  [(34, .bipush (-4), (-4), 0), (36, .ireturn, 0, 0), (37, .iconst 0, 0, 0), (38, .istore_n 2, 0, 0), (39, .iload_n 2, 0, 0), (40, .bipush 14, 14, 0), (42, .if_icmp .ge 21, 0, 63), (45, .aload_n 0, 0, 0), (46, .getfield 7, 0, 1000)],
  [(49, .iload_n 2, 0, 0), (50, .aload_n 0, 0, 0), (51, .getfield 42, 0, 1013), (54, .iload_n 2, 0, 0), (55, .iaload, 0, 0), (56, .iastore, 0, 0), (57, .iinc 2 1, 1, 0), (60, .goto (-21), 0, 39), (63, .aload_n 0, 0, 0)],
  [(64, .getfield 7, 0, 1000), (67, .bipush 14, 14, 0), (69, .iconst 0, 0, 0), (70, .iastore, 0, 0), (71, .aload_n 0, 0, 0), (72, .getfield 7, 0, 1000), (75, .invokestatic 139, 0, 1691), (78, .iconst 0, 0, 0), (79, .istore_n 2, 0, 0)],
  [(80, .iload_n 2, 0, 0), (81, .iconst 3, 3, 0), (82, .if_icmp .ge 16, 0, 98), (85, .aload_n 0, 0, 0), (86, .getfield 16, 0, 1002), (89, .iload_n 2, 0, 0), (90, .iconst 0, 0, 0), (91, .bastore, 0, 0), (92, .iinc 2 1, 1, 0), (95, .goto (-15), 0, 80)],
  [(98, .aload_n 0, 0, 0), (99, .getfield 7, 0, 1000), (102, .iconst 0, 0, 0), (103, .iaload, 0, 0), (104, .ireturn, 0, 0)]]
def qp_k169 : List (List (Nat × Instr × Int32 × Nat)) := [
  [(0, .aload_n 0, 0, 0), (1, .bipush 55, 55, 0), (3, .aload_n 0, 0, 0), (4, .iconst 1, 1, 0), (5, .iaload, 0, 0), (6, .iastore, 0, 0), (7, .aload_n 0, 0, 0), (8, .bipush 56, 56, 0), (10, .iconst 0, 0, 0), (11, .iastore, 0, 0), (12, .iconst 0, 0, 0), (13, .istore_n 1, 0, 0), (14, .iload_n 1, 0, 0), (15, .bipush 6, 6, 0)],
  [(17, .if_icmp .ge 16, 0, 33), (20, .aload_n 0, 0, 0), (21, .bipush 69, 69, 0), (23, .iload_n 1, 0, 0), (24, .iadd, 0, 0), (25, .iload_n 1, 0, 0), (26, .iastore, 0, 0), (27, .iinc 1 1, 1, 0), (30, .goto (-16), 0, 14)],
  [(33, .return_, 0, 0)]]
def qp_k170 : List (List (Nat × Instr × Int32 × Nat)) := [
  [(0, .aload_n 0, 0, 0), (1, .iload_n 1, 0, 0), (2, .invokevirtual 184, 0, 1710), (5, .ifCond .eq 28, 0, 33), (8, .iload_n 2, 0, 0), (9, .i2l, 0, 0), (10, .lconst 0, 0, 0), (11, .ldc2_w 187, 0, 0), (14, .invokestatic 87, 0, 1491)],
  [(17, .ifCond .eq 16, 0, 33), (20, .aload_n 0, 0, 0), (21, .aload_n 0, 0, 0), (22, .iload_n 1, 0, 0), (23, .iload_n 2, 0, 0), (24, .invokevirtual 189, 0, 1720), (27, .invokevirtual 105, 0, 1530), (30, .goto 4, 0, 34)],
  [(33, .iconst (-1), (-1), 0), (34, .ireturn, 0, 0)]]
def qp_k171 : List (List (Nat × Instr × Int32 × Nat)) := [
  [(0, .iload_n 1, 0, 0), (1, .i2l, 0, 0), (2, .lconst 0, 0, 0), (3, .aload_n 0, 0, 0), (4, .getfield 7, 0, 1000), (7, .iconst 0, 0, 0), (8, .iaload, 0, 0), (9, .iconst 1, 1, 0), (10, .isub, 0, 0), (11, .i2l, 0, 0), (12, .invokestatic 87, 0, 1491), (15, .ireturn, 0, 0)]]
def qp_k172 : List (List (Nat × Instr × Int32 × Nat)) := [
  [(0, .aload_n 0, 0, 0), (1, .invokevirtual 178, 0, 1730), (4, .iload_n 2, 0, 0), (5, .tableswitch 85 0 5 #[39, 48, 58, 64, 71, 78], 0, 39)],
  [],
  [(44, .aload_n 0, 0, 0), (45, .getfield 7, 0, 1000)],
  [(48, .iconst 2, 2, 0), (49, .iload_n 1, 0, 0), (50, .iadd, 0, 0), (51, .iaload, 0, 0), (52, .ireturn, 0, 0), (53, .aload_n 0, 0, 0), (54, .getfield 7, 0, 1000), (57, .bipush 8, 8, 0), (59, .iload_n 1, 0, 0), (60, .iadd, 0, 0), (61, .iaload, 0, 0), (62, .ireturn, 0, 0), (63, .aload_n 0, 0, 0)],
  [(64, .iload_n 1, 0, 0), (65, .invokevirtual 175, 0, 1770), (68, .ireturn, 0, 0), (69, .aload_n 0, 0, 0), (70, .getfield 57, 0, 1019), (73, .iload_n 1, 0, 0), (74, .iaload, 0, 0), (75, .ireturn, 0, 0), (76, .aload_n 0, 0, 0), (77, .getfield 48, 0, 1016)],
  [(80, .iload_n 1, 0, 0), (81, .iaload, 0, 0), (82, .ireturn, 0, 0), (83, .aload_n 0, 0, 0), (84, .getfield 51, 0, 1017), (87, .iload_n 1, 0, 0), (88, .iaload, 0, 0), (89, .ireturn, 0, 0), (90, .aload_n 0, 0, 0), (91, .iload_n 1, 0, 0), (92, .invokevirtual 181, 0, 1790), (95, .ireturn, 0, 0)]]
def qp_k173 : List (List (Nat × Instr × Int32 × Nat)) := [
  [(0, .aload_n 0, 0, 0), (1, .aload_n 0, 0, 0), (2, .getfield 7, 0, 1000), (5, .bipush 69, 69, 0), (7, .aload_n 0, 0, 0), (8, .getfield 7, 0, 1000), (11, .iconst 0, 0, 0), (12, .iaload, 0, 0), (13, .invokevirtual 171, 0, 1740)],
  [(16, .return_, 0, 0)]]
def qp_k174 : List (List (Nat × Instr × Int32 × Nat)) := [
  [(0, .iconst 0, 0, 0), (1, .istore 4, 0, 0), (3, .aload_n 0, 0, 0), (4, .aload_n 0, 0, 0), (5, .getfield 7, 0, 1000), (8, .bipush 55, 55, 0), (10, .iaload, 0, 0), (11, .putfield 161, 0, 1020), (14, .iconst 0, 0, 0), (15, .istore 5, 0, 0)],
  [(17, .iload 5, 0, 0), (19, .iconst 2, 2, 0), (20, .if_icmp .ge 182, 0, 202), (23, .iconst 0, 0, 0), (24, .istore 6, 0, 0), (26, .iload 6, 0, 0), (28, .iload_n 3, 0, 0), (29, .if_icmp .ge 167, 0, 196)],
  [(32, .aload_n 1, 0, 0), (33, .iload_n 2, 0, 0), (34, .iload 6, 0, 0), (36, .iadd, 0, 0), (37, .iaload, 0, 0), (38, .istore 7, 0, 0), (40, .aload_n 0, 0, 0), (41, .getfield 7, 0, 1000), (44, .iconst 2, 2, 0), (45, .iload 7, 0, 0), (47, .iadd, 0, 0)],
  [(48, .iaload, 0, 0), (49, .invokestatic 164, 0, 1751), (52, .iload 5, 0, 0), (54, .ifCond .ne 7, 0, 61), (57, .iconst 1, 1, 0), (58, .goto 4, 0, 62), (61, .iconst 0, 0, 0), (62, .if_icmp .ne 128, 0, 190)],
  [(65, .aload_n 0, 0, 0), (66, .getfield 57, 0, 1019), (69, .iload 7, 0, 0), (71, .aload_n 0, 0, 0), (72, .getfield 7, 0, 1000), (75, .iconst 2, 2, 0), (76, .iload 7, 0, 0), (78, .iadd, 0, 0), (79, .iaload, 0, 0)],
  [(80, .iload 6, 0, 0), (82, .iload_n 3, 0, 0), (83, .iconst 1, 1, 0), (84, .isub, 0, 0), (85, .if_icmp .ne 7, 0, 92), (88, .iconst 1, 1, 0), (89, .goto 4, 0, 93), (92, .iconst 0, 0, 0), (93, .invokestatic 167, 0, 1761)],
  [(96, .iastore, 0, 0), (97, .aload_n 0, 0, 0), (98, .getfield 51, 0, 1017), (101, .iload 7, 0, 0), (103, .iload 4, 0, 0), (105, .iastore, 0, 0), (106, .aload_n 0, 0, 0), (107, .getfield 54, 0, 1018), (110, .iload 7, 0, 0)],
  [(112, .aload_n 0, 0, 0), (113, .getfield 161, 0, 1020), (116, .iastore, 0, 0), (117, .aload_n 0, 0, 0), (118, .getfield 48, 0, 1016), (121, .iload 7, 0, 0), (123, .iload 4, 0, 0), (125, .aload_n 0, 0, 0), (126, .getfield 7, 0, 1000)],
  [(129, .bipush 8, 8, 0), (131, .iload 7, 0, 0), (133, .iadd, 0, 0), (134, .iaload, 0, 0), (135, .if_icmp .le 7, 0, 142), (138, .iconst 0, 0, 0), (139, .goto 31, 0, 170), (142, .aload_n 0, 0, 0), (143, .getfield 57, 0, 1019)],
  [(146, .iload 7, 0, 0), (148, .iaload, 0, 0), (149, .aload_n 0, 0, 0), (150, .getfield 161, 0, 1020), (153, .if_icmp .ge 13, 0, 166), (156, .aload_n 0, 0, 0), (157, .getfield 57, 0, 1019)],
  [(160, .iload 7, 0, 0), (162, .iaload, 0, 0), (163, .goto 7, 0, 170), (166, .aload_n 0, 0, 0), (167, .getfield 161, 0, 1020), (170, .iastore, 0, 0), (171, .aload_n 0, 0, 0), (172, .dup, 0, 0), (173, .getfield 161, 0, 1020)],
  [(176, .aload_n 0, 0, 0), (177, .getfield 48, 0, 1016), (180, .iload 7, 0, 0), (182, .iaload, 0, 0), (183, .isub, 0, 0), (184, .putfield 161, 0, 1020), (187, .iinc 4 1, 1, 0), (190, .iinc 6 1, 1, 0)],
  [(193, .goto (-167), 0, 26), (196, .iinc 5 1, 1, 0), (199, .goto (-182), 0, 17), (202, .return_, 0, 0)]]
def qp_k175 : List (List (Nat × Instr × Int32 × Nat)) := [
  [(0, .iload_n 0, 0, 0), (1, .iconst 1, 1, 0), (2, .if_icmp .eq 8, 0, 10), (5, .iload_n 0, 0, 0), (6, .iconst 4, 4, 0), (7, .if_icmp .ne 7, 0, 14), (10, .iconst 1, 1, 0), (11, .goto 4, 0, 15), (14, .iconst 0, 0, 0), (15, .ireturn, 0, 0)]]
def qp_k176 : List (List (Nat × Instr × Int32 × Nat)) := [
  [(0, .iload_n 0, 0, 0), (1, .tableswitch 47 2 5 #[31, 33, 35, 37], 0, 31)],
  [],
  [(32, .iconst 0, 0, 0), (33, .ireturn, 0, 0), (34, .iconst 2, 2, 0), (35, .ireturn, 0, 0), (36, .iconst 3, 3, 0), (37, .ireturn, 0, 0), (38, .iload_n 1, 0, 0), (39, .ifCond .eq 7, 0, 46), (42, .iconst 1, 1, 0), (43, .goto 4, 0, 47), (46, .iconst 0, 0, 0), (47, .ireturn, 0, 0)],
  [(48, .iconst 1, 1, 0), (49, .ireturn, 0, 0)]]
def qp_k177 : List (List (Nat × Instr × Int32 × Nat)) := [
  [(0, .aload_n 0, 0, 0), (1, .getfield 7, 0, 1000), (4, .bipush 69, 69, 0), (6, .aload_n 0, 0, 0), (7, .getfield 7, 0, 1000), (10, .iconst 0, 0, 0), (11, .iaload, 0, 0), (12, .iload_n 1, 0, 0), (13, .invokestatic 143, 0, 1781)],
  [(16, .ireturn, 0, 0)]]
def qp_k178 : List (List (Nat × Instr × Int32 × Nat)) := [
  [(0, .iconst 0, 0, 0), (1, .istore 4, 0, 0), (3, .iload 4, 0, 0), (5, .iload_n 2, 0, 0), (6, .if_icmp .ge 19, 0, 25), (9, .aload_n 0, 0, 0), (10, .iload_n 1, 0, 0), (11, .iload 4, 0, 0), (13, .iadd, 0, 0), (14, .iaload, 0, 0), (15, .iload_n 3, 0, 0)],
  [(16, .if_icmp .eq 9, 0, 25), (19, .iinc 4 1, 1, 0), (22, .goto (-19), 0, 3), (25, .iload 4, 0, 0), (27, .ireturn, 0, 0)]]
def qp_k179 : List (List (Nat × Instr × Int32 × Nat)) := [
  [(0, .aload_n 0, 0, 0), (1, .iload_n 1, 0, 0), (2, .invokevirtual 175, 0, 1770), (5, .istore_n 2, 0, 0), (6, .iload_n 2, 0, 0), (7, .ifCond .le 19, 0, 26), (10, .iconst 1, 1, 0), (11, .aload_n 0, 0, 0), (12, .getfield 7, 0, 1000), (15, .bipush 69, 69, 0)],
  [(17, .iload_n 2, 0, 0), (18, .iadd, 0, 0), (19, .iconst 1, 1, 0), (20, .isub, 0, 0), (21, .iaload, 0, 0), (22, .ishl, 0, 0), (23, .goto 4, 0, 27), (26, .iconst 0, 0, 0), (27, .istore_n 3, 0, 0), (28, .iload_n 2, 0, 0), (29, .aload_n 0, 0, 0), (30, .getfield 7, 0, 1000)],
  [(33, .iconst 0, 0, 0), (34, .iaload, 0, 0), (35, .iconst 1, 1, 0), (36, .isub, 0, 0), (37, .if_icmp .ge 21, 0, 58), (40, .iload_n 3, 0, 0), (41, .iconst 1, 1, 0), (42, .aload_n 0, 0, 0), (43, .getfield 7, 0, 1000), (46, .bipush 69, 69, 0)],
  [(48, .iload_n 2, 0, 0), (49, .iadd, 0, 0), (50, .iconst 1, 1, 0), (51, .iadd, 0, 0), (52, .iaload, 0, 0), (53, .ishl, 0, 0), (54, .ior, 0, 0), (55, .goto 4, 0, 59), (58, .iload_n 3, 0, 0), (59, .ireturn, 0, 0)]]
def qp_k180 : List (List (Nat × Instr × Int32 × Nat)) := [
  [(0, .aload_n 0, 0, 0), (1, .iload_n 1, 0, 0), (2, .invokevirtual 184, 0, 1710), (5, .ifCond .eq 15, 0, 20), (8, .iload_n 2, 0, 0), (9, .i2l, 0, 0), (10, .lconst 1, 0, 0), (11, .ldc2_w 85, 0, 0), (14, .invokestatic 87, 0, 1491)],
  [(17, .ifCond .ne 5, 0, 22), (20, .iconst (-1), (-1), 0), (21, .ireturn, 0, 0), (22, .aload_n 0, 0, 0), (23, .getfield 7, 0, 1000), (26, .iconst 2, 2, 0), (27, .iload_n 1, 0, 0), (28, .iadd, 0, 0), (29, .iaload, 0, 0), (30, .iload_n 2, 0, 0), (31, .invokestatic 192, 0, 1811)],
  [(34, .ifCond .ne 9, 0, 43), (37, .aload_n 0, 0, 0), (38, .iconst 3, 3, 0), (39, .invokevirtual 97, 0, 1500), (42, .ireturn, 0, 0), (43, .aload_n 0, 0, 0), (44, .invokevirtual 178, 0, 1730), (47, .iload_n 2, 0, 0)],
  [(48, .tableswitch 59 1 4 #[32, 59, 38, 45], 0, 32)],
  [],
  [(80, .aload_n 0, 0, 0), (81, .iload_n 1, 0, 0), (82, .invokevirtual 196, 0, 1820), (85, .ireturn, 0, 0), (86, .aload_n 0, 0, 0), (87, .getfield 54, 0, 1018), (90, .iload_n 1, 0, 0), (91, .iaload, 0, 0), (92, .ireturn, 0, 0), (93, .aload_n 0, 0, 0), (94, .getfield 57, 0, 1019)],
  [(97, .iload_n 1, 0, 0), (98, .iaload, 0, 0), (99, .aload_n 0, 0, 0), (100, .getfield 48, 0, 1016), (103, .iload_n 1, 0, 0), (104, .iaload, 0, 0), (105, .isub, 0, 0), (106, .ireturn, 0, 0), (107, .aload_n 0, 0, 0), (108, .getfield 7, 0, 1000), (111, .iconst 0, 0, 0)],
  [(112, .iaload, 0, 0), (113, .iconst 1, 1, 0), (114, .isub, 0, 0), (115, .aload_n 0, 0, 0), (116, .iload_n 1, 0, 0), (117, .invokevirtual 175, 0, 1770), (120, .isub, 0, 0), (121, .ireturn, 0, 0)]]
def qp_k181 : List (List (Nat × Instr × Int32 × Nat)) := [
  [(0, .iload_n 0, 0, 0), (1, .iload_n 1, 0, 0), (2, .if_icmp .eq 23, 0, 25), (5, .iload_n 1, 0, 0), (6, .iconst 1, 1, 0), (7, .if_icmp .ne 8, 0, 15), (10, .iload_n 0, 0, 0), (11, .iconst 4, 4, 0), (12, .if_icmp .eq 13, 0, 25), (15, .iload_n 1, 0, 0)],
  [(16, .iconst 2, 2, 0), (17, .if_icmp .ne 12, 0, 29), (20, .iload_n 0, 0, 0), (21, .iconst 5, 5, 0), (22, .if_icmp .ne 7, 0, 29), (25, .iconst 1, 1, 0), (26, .goto 4, 0, 30), (29, .iconst 0, 0, 0), (30, .ireturn, 0, 0)]]
def qp_k182 : List (List (Nat × Instr × Int32 × Nat)) := [
  [(0, .iconst 0, 0, 0), (1, .istore_n 2, 0, 0), (2, .iconst 0, 0, 0), (3, .istore_n 3, 0, 0), (4, .iload_n 3, 0, 0), (5, .aload_n 0, 0, 0), (6, .iload_n 1, 0, 0), (7, .invokevirtual 175, 0, 1770), (10, .if_icmp .ge 39, 0, 49), (13, .iload_n 2, 0, 0), (14, .aload_n 0, 0, 0), (15, .getfield 7, 0, 1000)],
  [(18, .iconst 2, 2, 0), (19, .aload_n 0, 0, 0), (20, .getfield 7, 0, 1000), (23, .bipush 69, 69, 0), (25, .iload_n 3, 0, 0), (26, .iadd, 0, 0), (27, .iaload, 0, 0), (28, .iadd, 0, 0), (29, .iaload, 0, 0), (30, .invokestatic 164, 0, 1751)],
  [(33, .ifCond .eq 7, 0, 40), (36, .iconst 0, 0, 0), (37, .goto 4, 0, 41), (40, .iconst 1, 1, 0), (41, .iadd, 0, 0), (42, .istore_n 2, 0, 0), (43, .iinc 3 1, 1, 0), (46, .goto (-42), 0, 4)],
  [(49, .iload_n 2, 0, 0), (50, .ireturn, 0, 0)]]
def qp_k183 : List (List (Nat × Instr × Int32 × Nat)) := [
  [(0, .aload_n 0, 0, 0), (1, .iload_n 1, 0, 0), (2, .invokevirtual 184, 0, 1710), (5, .ifCond .eq 11, 0, 16), (8, .aload_n 0, 0, 0), (9, .iload_n 2, 0, 0), (10, .invokevirtual 184, 0, 1710), (13, .ifCond .ne 5, 0, 18)],
  [(16, .iconst (-1), (-1), 0), (17, .ireturn, 0, 0), (18, .aload_n 0, 0, 0), (19, .getfield 7, 0, 1000), (22, .bipush 69, 69, 0), (24, .iload_n 2, 0, 0), (25, .iadd, 0, 0), (26, .iaload, 0, 0), (27, .iload_n 1, 0, 0), (28, .if_icmp .eq 15, 0, 43), (31, .aload_n 0, 0, 0)],
  [(32, .getfield 7, 0, 1000), (35, .bipush 56, 56, 0), (37, .iaload, 0, 0), (38, .bipush 12, 12, 0), (40, .if_icmp .ne 6, 0, 46), (43, .bipush (-4), (-4), 0), (45, .ireturn, 0, 0), (46, .aload_n 0, 0, 0), (47, .getfield 7, 0, 1000)],
  [(50, .bipush 14, 14, 0), (52, .iaload, 0, 0), (53, .bipush 40, 40, 0), (55, .if_icmp .ne 6, 0, 61), (58, .bipush (-2), (-2), 0), (60, .ireturn, 0, 0), (61, .aload_n 0, 0, 0), (62, .bipush 100, 100, 0)],
  [(64, .bipush 8, 8, 0), (66, .iload_n 1, 0, 0), (67, .imul, 0, 0), (68, .iadd, 0, 0), (69, .iload_n 2, 0, 0), (70, .iadd, 0, 0), (71, .invokevirtual 199, 0, 1840), (74, .istore_n 3, 0, 0), (75, .aload_n 0, 0, 0), (76, .getfield 7, 0, 1000), (79, .bipush 56, 56, 0)],
  [(81, .iaload, 0, 0), (82, .iconst 1, 1, 0), (83, .isub, 0, 0), (84, .ireturn, 0, 0)]]
def qp_k184 : List (List (Nat × Instr × Int32 × Nat)) := [
  [(0, .aload_n 0, 0, 0), (1, .getfield 7, 0, 1000), (4, .bipush 15, 15, 0), (6, .aload_n 0, 0, 0), (7, .getfield 7, 0, 1000), (10, .bipush 14, 14, 0), (12, .iaload, 0, 0), (13, .iadd, 0, 0), (14, .iload_n 1, 0, 0), (15, .iastore, 0, 0)],
  [(16, .aload_n 0, 0, 0), (17, .getfield 7, 0, 1000), (20, .bipush 14, 14, 0), (22, .dup2, 0, 0), (23, .iaload, 0, 0), (24, .iconst 1, 1, 0), (25, .iadd, 0, 0), (26, .iastore, 0, 0), (27, .aload_n 0, 0, 0), (28, .getfield 7, 0, 1000), (31, .iload_n 1, 0, 0)],
  [(32, .invokestatic 158, 0, 1851), (35, .ireturn, 0, 0)]]
def qp_k185 : List (List (Nat × Instr × Int32 × Nat)) := [
  [(0, .iload_n 1, 0, 0), (1, .sipush 300, 300, 0), (4, .if_icmp .lt 15, 0, 19), (7, .aload_n 0, 0, 0), (8, .bipush 55, 55, 0), (10, .iload_n 1, 0, 0), (11, .sipush 300, 300, 0), (14, .isub, 0, 0), (15, .iastore, 0, 0)],
  [(16, .goto 70, 0, 86), (19, .iload_n 1, 0, 0), (20, .sipush 200, 200, 0), (23, .if_icmp .lt 13, 0, 36), (26, .aload_n 0, 0, 0), (27, .iload_n 1, 0, 0), (28, .sipush 200, 200, 0), (31, .isub, 0, 0)],
  [(32, .invokestatic 154, 0, 1861), (35, .ireturn, 0, 0), (36, .iload_n 1, 0, 0), (37, .bipush 100, 100, 0), (39, .if_icmp .lt 47, 0, 86), (42, .aload_n 0, 0, 0), (43, .bipush 57, 57, 0), (45, .aload_n 0, 0, 0), (46, .bipush 56, 56, 0)],
  [(48, .iaload, 0, 0), (49, .iadd, 0, 0), (50, .iload_n 1, 0, 0), (51, .bipush 100, 100, 0), (53, .isub, 0, 0), (54, .iastore, 0, 0), (55, .aload_n 0, 0, 0), (56, .bipush 56, 56, 0), (58, .dup2, 0, 0), (59, .iaload, 0, 0), (60, .iconst 1, 1, 0), (61, .iadd, 0, 0), (62, .iastore, 0, 0), (63, .aload_n 0, 0, 0)],
  [(64, .bipush 69, 69, 0), (66, .aload_n 0, 0, 0), (67, .iconst 0, 0, 0), (68, .iaload, 0, 0), (69, .iload_n 1, 0, 0), (70, .bipush 100, 100, 0), (72, .isub, 0, 0), (73, .bipush 8, 8, 0), (75, .idiv, 0, 0), (76, .iload_n 1, 0, 0), (77, .bipush 100, 100, 0), (79, .isub, 0, 0)],
  [(80, .bipush 8, 8, 0), (82, .irem, 0, 0), (83, .invokestatic 147, 0, 1881), (86, .iconst 0, 0, 0), (87, .ireturn, 0, 0)]]
def qp_k186 : List (List (Nat × Instr × Int32 × Nat)) := [
  [(0, .aload_n 0, 0, 0), (1, .bipush 56, 56, 0), (3, .iaload, 0, 0), (4, .istore_n 2, 0, 0), (5, .iconst 0, 0, 0), (6, .istore_n 3, 0, 0), (7, .aload_n 0, 0, 0), (8, .bipush 56, 56, 0), (10, .iload_n 1, 0, 0), (11, .iastore, 0, 0), (12, .aload_n 0, 0, 0), (13, .invokestatic 151, 0, 1871)],
  [(16, .iload_n 1, 0, 0), (17, .iconst 1, 1, 0), (18, .iadd, 0, 0), (19, .istore 4, 0, 0), (21, .iload 4, 0, 0), (23, .iload_n 2, 0, 0), (24, .if_icmp .ge 88, 0, 112), (27, .aload_n 0, 0, 0), (28, .bipush 57, 57, 0), (30, .iload 4, 0, 0)],
  [(32, .iadd, 0, 0), (33, .iaload, 0, 0), (34, .bipush 8, 8, 0), (36, .idiv, 0, 0), (37, .istore 5, 0, 0), (39, .aload_n 0, 0, 0), (40, .bipush 57, 57, 0), (42, .iload 4, 0, 0), (44, .iadd, 0, 0), (45, .iaload, 0, 0), (46, .bipush 8, 8, 0)],
  [(48, .irem, 0, 0), (49, .istore 6, 0, 0), (51, .aload_n 0, 0, 0), (52, .bipush 69, 69, 0), (54, .iload 6, 0, 0), (56, .iadd, 0, 0), (57, .iaload, 0, 0), (58, .iload 5, 0, 0), (60, .if_icmp .ne 9, 0, 69), (63, .iinc 3 1, 1, 0)],
  [(66, .goto 40, 0, 106), (69, .aload_n 0, 0, 0), (70, .bipush 57, 57, 0), (72, .aload_n 0, 0, 0), (73, .bipush 56, 56, 0), (75, .iaload, 0, 0), (76, .iadd, 0, 0), (77, .aload_n 0, 0, 0), (78, .bipush 57, 57, 0)],
  [(80, .iload 4, 0, 0), (82, .iadd, 0, 0), (83, .iaload, 0, 0), (84, .iastore, 0, 0), (85, .aload_n 0, 0, 0), (86, .bipush 56, 56, 0), (88, .dup2, 0, 0), (89, .iaload, 0, 0), (90, .iconst 1, 1, 0), (91, .iadd, 0, 0), (92, .iastore, 0, 0), (93, .aload_n 0, 0, 0), (94, .bipush 69, 69, 0)],
  [(96, .aload_n 0, 0, 0), (97, .iconst 0, 0, 0), (98, .iaload, 0, 0), (99, .iload 5, 0, 0), (101, .iload 6, 0, 0), (103, .invokestatic 147, 0, 1881), (106, .iinc 4 1, 1, 0), (109, .goto (-88), 0, 21)],
  [(112, .iload_n 3, 0, 0), (113, .ireturn, 0, 0)]]
def qp_k187 : List (List (Nat × Instr × Int32 × Nat)) := [
  [(0, .iconst 0, 0, 0), (1, .istore_n 1, 0, 0), (2, .iload_n 1, 0, 0), (3, .bipush 6, 6, 0), (5, .if_icmp .ge 16, 0, 21), (8, .aload_n 0, 0, 0), (9, .bipush 69, 69, 0), (11, .iload_n 1, 0, 0), (12, .iadd, 0, 0), (13, .iload_n 1, 0, 0), (14, .iastore, 0, 0), (15, .iinc 1 1, 1, 0)],
  [(18, .goto (-16), 0, 2), (21, .iconst 0, 0, 0), (22, .istore_n 1, 0, 0), (23, .iload_n 1, 0, 0), (24, .aload_n 0, 0, 0), (25, .bipush 56, 56, 0), (27, .iaload, 0, 0), (28, .if_icmp .ge 36, 0, 64), (31, .aload_n 0, 0, 0)],
  [(32, .bipush 69, 69, 0), (34, .aload_n 0, 0, 0), (35, .iconst 0, 0, 0), (36, .iaload, 0, 0), (37, .aload_n 0, 0, 0), (38, .bipush 57, 57, 0), (40, .iload_n 1, 0, 0), (41, .iadd, 0, 0), (42, .iaload, 0, 0), (43, .bipush 8, 8, 0), (45, .idiv, 0, 0), (46, .aload_n 0, 0, 0), (47, .bipush 57, 57, 0)],
  [(49, .iload_n 1, 0, 0), (50, .iadd, 0, 0), (51, .iaload, 0, 0), (52, .bipush 8, 8, 0), (54, .irem, 0, 0), (55, .invokestatic 147, 0, 1881), (58, .iinc 1 1, 1, 0), (61, .goto (-38), 0, 23)],
  [(64, .return_, 0, 0)]]
def qp_k188 : List (List (Nat × Instr × Int32 × Nat)) := [
  [(0, .aload_n 0, 0, 0), (1, .iload_n 1, 0, 0), (2, .iload_n 2, 0, 0), (3, .iload_n 3, 0, 0), (4, .invokestatic 143, 0, 1781), (7, .istore 5, 0, 0), (9, .iload 5, 0, 0), (11, .iload 4, 0, 0), (13, .if_icmp .ge 23, 0, 36)],
  [(16, .aload_n 0, 0, 0), (17, .iload_n 1, 0, 0), (18, .iload 5, 0, 0), (20, .iadd, 0, 0), (21, .aload_n 0, 0, 0), (22, .iload_n 1, 0, 0), (23, .iload 5, 0, 0), (25, .iadd, 0, 0), (26, .iconst 1, 1, 0), (27, .iadd, 0, 0), (28, .iaload, 0, 0), (29, .iastore, 0, 0), (30, .iinc 5 1, 1, 0)],
  [(33, .goto (-24), 0, 9), (36, .iload 5, 0, 0), (38, .iload 4, 0, 0), (40, .if_icmp .le 23, 0, 63), (43, .aload_n 0, 0, 0), (44, .iload_n 1, 0, 0), (45, .iload 5, 0, 0), (47, .iadd, 0, 0)],
  [(48, .aload_n 0, 0, 0), (49, .iload_n 1, 0, 0), (50, .iload 5, 0, 0), (52, .iadd, 0, 0), (53, .iconst 1, 1, 0), (54, .isub, 0, 0), (55, .iaload, 0, 0), (56, .iastore, 0, 0), (57, .iinc 5 (-1), (-1), 0), (60, .goto (-24), 0, 36), (63, .aload_n 0, 0, 0)],
  [(64, .iload_n 1, 0, 0), (65, .iload 4, 0, 0), (67, .iadd, 0, 0), (68, .iload_n 3, 0, 0), (69, .iastore, 0, 0), (70, .return_, 0, 0)]]
def qp_k189 : List (List (Nat × Instr × Int32 × Nat)) := [
  [(0, .aload_n 0, 0, 0), (1, .iload_n 1, 0, 0), (2, .invokevirtual 202, 0, 1900), (5, .ifCond .ne 5, 0, 10), (8, .iconst (-1), (-1), 0), (9, .ireturn, 0, 0), (10, .aload_n 0, 0, 0), (11, .getfield 7, 0, 1000), (14, .bipush 14, 14, 0)],
  [(16, .iaload, 0, 0), (17, .bipush 40, 40, 0), (19, .if_icmp .ne 8, 0, 27), (22, .bipush (-2), (-2), 0), (24, .goto 12, 0, 36), (27, .aload_n 0, 0, 0), (28, .sipush 200, 200, 0), (31, .iload_n 1, 0, 0)],
  [(32, .iadd, 0, 0), (33, .invokevirtual 199, 0, 1840), (36, .ireturn, 0, 0)]]
def qp_k190 : List (List (Nat × Instr × Int32 × Nat)) := [
  [(0, .iload_n 1, 0, 0), (1, .i2l, 0, 0), (2, .lconst 0, 0, 0), (3, .aload_n 0, 0, 0), (4, .getfield 7, 0, 1000), (7, .bipush 56, 56, 0), (9, .iaload, 0, 0), (10, .iconst 1, 1, 0), (11, .isub, 0, 0), (12, .i2l, 0, 0), (13, .invokestatic 87, 0, 1491)],
  [(16, .ireturn, 0, 0)]]
def qp_k191 : List (List (Nat × Instr × Int32 × Nat)) := [
  [(0, .iload_n 1, 0, 0), (1, .i2l, 0, 0), (2, .lconst 0, 0, 0), (3, .ldc2_w 205, 0, 0), (6, .invokestatic 87, 0, 1491), (9, .ifCond .ne 5, 0, 14), (12, .iconst (-1), (-1), 0), (13, .ireturn, 0, 0), (14, .aload_n 0, 0, 0), (15, .getfield 7, 0, 1000)],
  [(18, .iconst 0, 0, 0), (19, .iaload, 0, 0), (20, .ifCond .eq 14, 0, 34), (23, .aload_n 0, 0, 0), (24, .getfield 7, 0, 1000), (27, .bipush 55, 55, 0), (29, .iaload, 0, 0), (30, .iload_n 1, 0, 0), (31, .if_icmp .ne 6, 0, 37)],
  [(34, .bipush (-4), (-4), 0), (36, .ireturn, 0, 0), (37, .aload_n 0, 0, 0), (38, .getfield 7, 0, 1000), (41, .bipush 14, 14, 0), (43, .iaload, 0, 0), (44, .bipush 40, 40, 0), (46, .if_icmp .ne 6, 0, 52)],
  [(49, .bipush (-2), (-2), 0), (51, .ireturn, 0, 0), (52, .aload_n 0, 0, 0), (53, .getfield 7, 0, 1000), (56, .bipush 55, 55, 0), (58, .iaload, 0, 0), (59, .istore_n 2, 0, 0), (60, .aload_n 0, 0, 0), (61, .sipush 300, 300, 0)],
  [(64, .iload_n 1, 0, 0), (65, .iadd, 0, 0), (66, .invokevirtual 199, 0, 1840), (69, .istore_n 3, 0, 0), (70, .iload_n 2, 0, 0), (71, .ireturn, 0, 0)]]
def qp_k192 : List (List (Nat × Instr × Int32 × Nat)) := [
  [(0, .iload_n 1, 0, 0), (1, .i2l, 0, 0), (2, .lconst 0, 0, 0), (3, .aload_n 0, 0, 0), (4, .getfield 7, 0, 1000), (7, .bipush 14, 14, 0), (9, .iaload, 0, 0), (10, .i2l, 0, 0), (11, .invokestatic 87, 0, 1491), (14, .ifCond .ne 5, 0, 19)],
  [(17, .iconst (-1), (-1), 0), (18, .ireturn, 0, 0), (19, .aload_n 0, 0, 0), (20, .getfield 7, 0, 1000), (23, .bipush 14, 14, 0), (25, .iaload, 0, 0), (26, .iload_n 1, 0, 0), (27, .isub, 0, 0), (28, .istore_n 2, 0, 0), (29, .aload_n 0, 0, 0), (30, .getfield 7, 0, 1000)],
  [(33, .invokestatic 139, 0, 1691), (36, .iconst 0, 0, 0), (37, .istore_n 3, 0, 0), (38, .iload_n 3, 0, 0), (39, .iload_n 1, 0, 0), (40, .if_icmp .ge 27, 0, 67), (43, .aload_n 0, 0, 0), (44, .getfield 7, 0, 1000), (47, .aload_n 0, 0, 0)],
  [(48, .getfield 7, 0, 1000), (51, .bipush 15, 15, 0), (53, .iload_n 3, 0, 0), (54, .iadd, 0, 0), (55, .iaload, 0, 0), (56, .invokestatic 158, 0, 1851), (59, .istore 4, 0, 0), (61, .iinc 3 1, 1, 0)],
  [(64, .goto (-26), 0, 38), (67, .aload_n 0, 0, 0), (68, .getfield 7, 0, 1000), (71, .bipush 14, 14, 0), (73, .iload_n 1, 0, 0), (74, .iastore, 0, 0), (75, .iload_n 2, 0, 0), (76, .ireturn, 0, 0)]]
def qp_k193 : List (List (Nat × Instr × Int32 × Nat)) := [
  [(0, .iload_n 1, 0, 0), (1, .invokestatic 209, 0, 1941), (4, .ifCond .ne 5, 0, 9), (7, .iconst (-1), (-1), 0), (8, .ireturn, 0, 0), (9, .aload_n 0, 0, 0), (10, .getfield 7, 0, 1000), (13, .iconst 0, 0, 0), (14, .iaload, 0, 0), (15, .ifCond .ne 6, 0, 21)],
  [(18, .bipush (-4), (-4), 0), (20, .ireturn, 0, 0), (21, .iconst 0, 0, 0), (22, .istore_n 2, 0, 0), (23, .iload_n 2, 0, 0), (24, .bipush 75, 75, 0), (26, .if_icmp .ge 26, 0, 52), (29, .aload_n 0, 0, 0), (30, .getfield 13, 0, 1001)],
  [(33, .bipush 75, 75, 0), (35, .iload_n 1, 0, 0), (36, .imul, 0, 0), (37, .iload_n 2, 0, 0), (38, .iadd, 0, 0), (39, .aload_n 0, 0, 0), (40, .getfield 7, 0, 1000), (43, .iload_n 2, 0, 0), (44, .iaload, 0, 0), (45, .iastore, 0, 0), (46, .iinc 2 1, 1, 0)],
  [(49, .goto (-26), 0, 23), (52, .aload_n 0, 0, 0), (53, .getfield 16, 0, 1002), (56, .iload_n 1, 0, 0), (57, .iconst 1, 1, 0), (58, .bastore, 0, 0), (59, .aload_n 0, 0, 0), (60, .getfield 7, 0, 1000), (63, .bipush 14, 14, 0)],
  [(65, .iaload, 0, 0), (66, .ireturn, 0, 0)]]
def qp_k194 : List (List (Nat × Instr × Int32 × Nat)) := [
  [(0, .iload_n 0, 0, 0), (1, .i2l, 0, 0), (2, .lconst 0, 0, 0), (3, .ldc2_w 207, 0, 0), (6, .invokestatic 87, 0, 1491), (9, .ireturn, 0, 0)]]
def qp_k195 : List (List (Nat × Instr × Int32 × Nat)) := [
  [(0, .iload_n 1, 0, 0), (1, .invokestatic 209, 0, 1941), (4, .ifCond .ne 5, 0, 9), (7, .iconst (-1), (-1), 0), (8, .ireturn, 0, 0), (9, .aload_n 0, 0, 0), (10, .getfield 16, 0, 1002), (13, .iload_n 1, 0, 0), (14, .baload, 0, 0), (15, .ifCond .ne 9, 0, 24)],
  [(18, .aload_n 0, 0, 0), (19, .iconst 1, 1, 0), (20, .invokevirtual 97, 0, 1500), (23, .ireturn, 0, 0), (24, .iconst 0, 0, 0), (25, .istore_n 2, 0, 0), (26, .iload_n 2, 0, 0), (27, .bipush 75, 75, 0), (29, .if_icmp .ge 26, 0, 55)],
  [(32, .aload_n 0, 0, 0), (33, .getfield 7, 0, 1000), (36, .iload_n 2, 0, 0), (37, .aload_n 0, 0, 0), (38, .getfield 13, 0, 1001), (41, .bipush 75, 75, 0), (43, .iload_n 1, 0, 0), (44, .imul, 0, 0), (45, .iload_n 2, 0, 0), (46, .iadd, 0, 0), (47, .iaload, 0, 0)],
  [(48, .iastore, 0, 0), (49, .iinc 2 1, 1, 0), (52, .goto (-26), 0, 26), (55, .aload_n 0, 0, 0), (56, .getfield 7, 0, 1000), (59, .bipush 14, 14, 0), (61, .iaload, 0, 0), (62, .ireturn, 0, 0)]]
def qp_k196 : List (List (Nat × Instr × Int32 × Nat)) := [
  [(0, .aload_n 0, 0, 0), (1, .iload_n 1, 0, 0), (2, .invokevirtual 184, 0, 1710), (5, .ifCond .eq 15, 0, 20), (8, .aload_n 0, 0, 0), (9, .getfield 7, 0, 1000), (12, .bipush 69, 69, 0), (14, .iload_n 1, 0, 0), (15, .iadd, 0, 0)],
  [(16, .iaload, 0, 0), (17, .goto 4, 0, 21), (20, .iconst (-1), (-1), 0), (21, .ireturn, 0, 0)]]
def qp_k197 : List (List (Nat × Instr × Int32 × Nat)) := [
  [(0, .aload_n 0, 0, 0), (1, .iload_n 1, 0, 0), (2, .invokevirtual 202, 0, 1900), (5, .ifCond .eq 13, 0, 18), (8, .iload_n 2, 0, 0), (9, .i2l, 0, 0), (10, .lconst 0, 0, 0), (11, .lconst 1, 0, 0), (12, .invokestatic 87, 0, 1491), (15, .ifCond .ne 5, 0, 20)],
  [(18, .iconst (-1), (-1), 0), (19, .ireturn, 0, 0), (20, .iload_n 2, 0, 0), (21, .ifCond .ne 18, 0, 39), (24, .aload_n 0, 0, 0), (25, .getfield 7, 0, 1000), (28, .bipush 57, 57, 0), (30, .iload_n 1, 0, 0), (31, .iadd, 0, 0)],
  [(32, .iaload, 0, 0), (33, .bipush 8, 8, 0), (35, .idiv, 0, 0), (36, .goto 15, 0, 51), (39, .aload_n 0, 0, 0), (40, .getfield 7, 0, 1000), (43, .bipush 57, 57, 0), (45, .iload_n 1, 0, 0), (46, .iadd, 0, 0), (47, .iaload, 0, 0)],
  [(48, .bipush 8, 8, 0), (50, .irem, 0, 0), (51, .ireturn, 0, 0)]]
def qp_k198 : List (List (Nat × Instr × Int32 × Nat)) := [
  [(0, .aload_n 0, 0, 0), (1, .iload_n 1, 0, 0), (2, .invokevirtual 184, 0, 1710), (5, .ifCond .eq 42, 0, 47), (8, .aload_n 0, 0, 0), (9, .iload_n 2, 0, 0), (10, .invokevirtual 184, 0, 1710), (13, .ifCond .eq 34, 0, 47)],
  [(16, .aload_n 0, 0, 0), (17, .getfield 7, 0, 1000), (20, .iconst 2, 2, 0), (21, .iload_n 1, 0, 0), (22, .iadd, 0, 0), (23, .iaload, 0, 0), (24, .iload_n 2, 0, 0), (25, .aload_n 0, 0, 0), (26, .getfield 7, 0, 1000), (29, .iconst 0, 0, 0), (30, .iaload, 0, 0), (31, .iconst 1, 1, 0)],
  [(32, .isub, 0, 0), (33, .if_icmp .ne 7, 0, 40), (36, .iconst 1, 1, 0), (37, .goto 4, 0, 41), (40, .iconst 0, 0, 0), (41, .invokestatic 167, 0, 1761), (44, .goto 4, 0, 48), (47, .iconst (-1), (-1), 0)],
  [(48, .ireturn, 0, 0)]]
def qp_k199 : List (List (Nat × Instr × Int32 × Nat)) := [
  [(0, .aload_n 0, 0, 0), (1, .iload_n 1, 0, 0), (2, .invokevirtual 184, 0, 1710), (5, .ifCond .eq 20, 0, 25), (8, .aload_n 0, 0, 0), (9, .iload_n 2, 0, 0), (10, .invokevirtual 184, 0, 1710), (13, .ifCond .eq 12, 0, 25)],
  [(16, .aload_n 0, 0, 0), (17, .iload_n 1, 0, 0), (18, .iload_n 2, 0, 0), (19, .invokevirtual 215, 0, 2000), (22, .goto 4, 0, 26), (25, .iconst (-1), (-1), 0), (26, .ireturn, 0, 0)]]
def qp_k200 : List (List (Nat × Instr × Int32 × Nat)) := [
  [(0, .aload_n 0, 0, 0), (1, .invokevirtual 212, 0, 2010), (4, .aload_n 0, 0, 0), (5, .getfield 45, 0, 1015), (8, .bipush 69, 69, 0), (10, .aload_n 0, 0, 0), (11, .getfield 7, 0, 1000), (14, .iconst 0, 0, 0), (15, .iaload, 0, 0)],
  [(16, .iload_n 1, 0, 0), (17, .iload_n 2, 0, 0), (18, .invokestatic 147, 0, 1881), (21, .aload_n 0, 0, 0), (22, .aload_n 0, 0, 0), (23, .getfield 45, 0, 1015), (26, .bipush 69, 69, 0), (28, .aload_n 0, 0, 0), (29, .getfield 7, 0, 1000)],
  [(32, .iconst 0, 0, 0), (33, .iaload, 0, 0), (34, .invokevirtual 171, 0, 1740), (37, .aload_n 0, 0, 0), (38, .getfield 48, 0, 1016), (41, .iload_n 1, 0, 0), (42, .iaload, 0, 0), (43, .ireturn, 0, 0)]]
def qp_k201 : List (List (Nat × Instr × Int32 × Nat)) := [
  [(0, .iconst 0, 0, 0), (1, .istore_n 1, 0, 0), (2, .iload_n 1, 0, 0), (3, .bipush 75, 75, 0), (5, .if_icmp .ge 21, 0, 26), (8, .aload_n 0, 0, 0), (9, .getfield 45, 0, 1015), (12, .iload_n 1, 0, 0), (13, .aload_n 0, 0, 0), (14, .getfield 7, 0, 1000)],
  [(17, .iload_n 1, 0, 0), (18, .iaload, 0, 0), (19, .iastore, 0, 0), (20, .iinc 1 1, 1, 0), (23, .goto (-21), 0, 2), (26, .return_, 0, 0)]]
def qp_k202 : List (List (Nat × Instr × Int32 × Nat)) := [
  [(0, .aload_n 0, 0, 0), (1, .iload_n 1, 0, 0), (2, .invokevirtual 184, 0, 1710), (5, .ifCond .ne 5, 0, 10), (8, .iconst (-1), (-1), 0), (9, .ireturn, 0, 0), (10, .bipush (-9), (-9), 0), (12, .istore_n 2, 0, 0), (13, .bipush (-9), (-9), 0), (15, .istore_n 3, 0, 0)],
  [(16, .iconst 0, 0, 0), (17, .istore 4, 0, 0), (19, .iload 4, 0, 0), (21, .aload_n 0, 0, 0), (22, .getfield 7, 0, 1000), (25, .iconst 0, 0, 0), (26, .iaload, 0, 0), (27, .if_icmp .ge 44, 0, 71), (30, .aload_n 0, 0, 0), (31, .iload_n 1, 0, 0)],
  [(32, .iload 4, 0, 0), (34, .invokevirtual 215, 0, 2000), (37, .istore 5, 0, 0), (39, .iload 5, 0, 0), (41, .iload_n 3, 0, 0), (42, .if_icmp .le 8, 0, 50), (45, .iload 4, 0, 0), (47, .goto 4, 0, 51)],
  [(50, .iload_n 2, 0, 0), (51, .istore_n 2, 0, 0), (52, .iload 5, 0, 0), (54, .iload_n 3, 0, 0), (55, .if_icmp .le 8, 0, 63), (58, .iload 5, 0, 0), (60, .goto 4, 0, 64), (63, .iload_n 3, 0, 0)],
  [(64, .istore_n 3, 0, 0), (65, .iinc 4 1, 1, 0), (68, .goto (-49), 0, 19), (71, .aload_n 0, 0, 0), (72, .iload_n 3, 0, 0), (73, .invokevirtual 105, 0, 1530), (76, .istore 4, 0, 0), (78, .iload_n 2, 0, 0), (79, .ireturn, 0, 0)]]
def qp_k203 : List (List (Nat × Instr × Int32 × Nat)) := [
  [(0, .aload_n 0, 0, 0), (1, .iload_n 1, 0, 0), (2, .invokevirtual 202, 0, 1900), (5, .ifCond .ne 5, 0, 10), (8, .iconst (-1), (-1), 0), (9, .ireturn, 0, 0), (10, .aload_n 0, 0, 0), (11, .invokevirtual 212, 0, 2010), (14, .aload_n 0, 0, 0), (15, .getfield 45, 0, 1015)],
  [(18, .iload_n 1, 0, 0), (19, .invokestatic 154, 0, 1861), (22, .ireturn, 0, 0)]]
def qp_k204 : List (List (Nat × Instr × Int32 × Nat)) := [
  [(0, .aload_n 0, 0, 0), (1, .iload_n 1, 0, 0), (2, .invokevirtual 184, 0, 1710), (5, .ifCond .eq 32, 0, 37), (8, .aload_n 0, 0, 0), (9, .iload_n 2, 0, 0), (10, .invokevirtual 184, 0, 1710), (13, .ifCond .eq 24, 0, 37)],
  [(16, .iload_n 1, 0, 0), (17, .iload_n 2, 0, 0), (18, .if_icmp .eq 19, 0, 37), (21, .aload_n 0, 0, 0), (22, .iload_n 3, 0, 0), (23, .invokevirtual 184, 0, 1710), (26, .ifCond .eq 11, 0, 37), (29, .iload 4, 0, 0), (31, .invokestatic 93, 0, 1481)],
  [(34, .ifCond .ne 5, 0, 39), (37, .iconst (-1), (-1), 0), (38, .ireturn, 0, 0), (39, .iconst 1, 1, 0), (40, .istore 5, 0, 0), (42, .iconst 0, 0, 0), (43, .istore 6, 0, 0), (45, .iload 6, 0, 0), (47, .iconst 3, 3, 0)],
  [(48, .if_icmp .gt 94, 0, 142), (51, .iconst 0, 0, 0), (52, .istore 7, 0, 0), (54, .iload 7, 0, 0), (56, .iload 5, 0, 0), (58, .if_icmp .ge 71, 0, 129), (61, .aload_n 0, 0, 0), (62, .iload 7, 0, 0)],
  [(64, .iload 6, 0, 0), (66, .iload_n 1, 0, 0), (67, .iload_n 2, 0, 0), (68, .iload_n 3, 0, 0), (69, .invokevirtual 218, 0, 2050), (72, .ifCond .eq 51, 0, 123), (75, .aload_n 0, 0, 0), (76, .getfield 23, 0, 1004), (79, .iload 4, 0, 0)],
  [(81, .iload 6, 0, 0), (83, .iastore, 0, 0), (84, .iconst 0, 0, 0), (85, .istore 8, 0, 0), (87, .iload 8, 0, 0), (89, .iload 6, 0, 0), (91, .if_icmp .ge 29, 0, 120), (94, .aload_n 0, 0, 0), (95, .getfield 20, 0, 1003)],
  [(98, .bipush 40, 40, 0), (100, .iload 4, 0, 0), (102, .imul, 0, 0), (103, .iload 8, 0, 0), (105, .iadd, 0, 0), (106, .aload_n 0, 0, 0), (107, .getfield 60, 0, 1021), (110, .iload 8, 0, 0)],
  [(112, .iaload, 0, 0), (113, .iastore, 0, 0), (114, .iinc 8 1, 1, 0), (117, .goto (-30), 0, 87), (120, .iload 6, 0, 0), (122, .ireturn, 0, 0), (123, .iinc 7 1, 1, 0), (126, .goto (-72), 0, 54)],
  [(129, .iload 5, 0, 0), (131, .bipush 36, 36, 0), (133, .imul, 0, 0), (134, .istore 5, 0, 0), (136, .iinc 6 1, 1, 0), (139, .goto (-94), 0, 45), (142, .bipush (-9), (-9), 0)],
  [(144, .ireturn, 0, 0)]]
def qp_k205 : List (List (Nat × Instr × Int32 × Nat)) := [
  [(0, .iload_n 1, 0, 0), (1, .istore 6, 0, 0), (3, .aload_n 0, 0, 0), (4, .getfield 7, 0, 1000), (7, .iconst 0, 0, 0), (8, .iaload, 0, 0), (9, .istore 7, 0, 0), (11, .iconst 1, 1, 0), (12, .istore 8, 0, 0), (14, .iload_n 2, 0, 0), (15, .iconst 1, 1, 0)],
  [(16, .isub, 0, 0), (17, .istore 9, 0, 0), (19, .iload 9, 0, 0), (21, .ifCond .lt 40, 0, 61), (24, .aload_n 0, 0, 0), (25, .getfield 60, 0, 1021), (28, .iload 9, 0, 0), (30, .bipush 8, 8, 0)],
  [(32, .iload 6, 0, 0), (34, .bipush 36, 36, 0), (36, .irem, 0, 0), (37, .bipush 6, 6, 0), (39, .idiv, 0, 0), (40, .imul, 0, 0), (41, .iload 6, 0, 0), (43, .bipush 6, 6, 0), (45, .irem, 0, 0), (46, .iadd, 0, 0), (47, .iastore, 0, 0)],
  [(48, .iload 6, 0, 0), (50, .bipush 36, 36, 0), (52, .idiv, 0, 0), (53, .istore 6, 0, 0), (55, .iinc 9 (-1), (-1), 0), (58, .goto (-39), 0, 19), (61, .aload_n 0, 0, 0), (62, .invokevirtual 212, 0, 2010)],
  [(65, .iconst 0, 0, 0), (66, .istore 9, 0, 0), (68, .iload 9, 0, 0), (70, .iload_n 2, 0, 0), (71, .if_icmp .ge 94, 0, 165), (74, .iload 8, 0, 0), (76, .ifCond .eq 89, 0, 165), (79, .aload_n 0, 0, 0)],
  [(80, .getfield 60, 0, 1021), (83, .iload 9, 0, 0), (85, .iaload, 0, 0), (86, .bipush 8, 8, 0), (88, .idiv, 0, 0), (89, .istore 10, 0, 0), (91, .aload_n 0, 0, 0), (92, .getfield 60, 0, 1021), (95, .iload 9, 0, 0)],
  [(97, .iaload, 0, 0), (98, .bipush 8, 8, 0), (100, .irem, 0, 0), (101, .istore 11, 0, 0), (103, .iload 10, 0, 0), (105, .iload 7, 0, 0), (107, .if_icmp .ge 29, 0, 136), (110, .iload 11, 0, 0)],
  [(112, .iload 7, 0, 0), (114, .if_icmp .ge 22, 0, 136), (117, .aload_n 0, 0, 0), (118, .getfield 45, 0, 1015), (121, .bipush 69, 69, 0), (123, .iload 11, 0, 0), (125, .iadd, 0, 0), (126, .iaload, 0, 0), (127, .iload 10, 0, 0)],
  [(129, .if_icmp .eq 7, 0, 136), (132, .iconst 1, 1, 0), (133, .goto 4, 0, 137), (136, .iconst 0, 0, 0), (137, .istore 8, 0, 0), (139, .iload 8, 0, 0), (141, .ifCond .eq 18, 0, 159)],
  [(144, .aload_n 0, 0, 0), (145, .getfield 45, 0, 1015), (148, .bipush 69, 69, 0), (150, .iload 7, 0, 0), (152, .iload 10, 0, 0), (154, .iload 11, 0, 0), (156, .invokestatic 147, 0, 1881), (159, .iinc 9 1, 1, 0)],
  [(162, .goto (-94), 0, 68), (165, .iload 8, 0, 0), (167, .ifCond .ne 5, 0, 172), (170, .iconst 0, 0, 0), (171, .ireturn, 0, 0), (172, .aload_n 0, 0, 0), (173, .getfield 45, 0, 1015)],
  [(176, .bipush 69, 69, 0), (178, .iload 7, 0, 0), (180, .iload_n 3, 0, 0), (181, .invokestatic 143, 0, 1781), (184, .aload_n 0, 0, 0), (185, .getfield 45, 0, 1015), (188, .bipush 69, 69, 0), (190, .iload 7, 0, 0)],
  [(192, .iload 4, 0, 0), (194, .invokestatic 143, 0, 1781), (197, .isub, 0, 0), (198, .istore 9, 0, 0), (200, .aload_n 0, 0, 0), (201, .aload_n 0, 0, 0), (202, .getfield 45, 0, 1015), (205, .bipush 69, 69, 0), (207, .iload 7, 0, 0)],
  [(209, .invokevirtual 171, 0, 1740), (212, .iload 9, 0, 0), (214, .iconst 1, 1, 0), (215, .if_icmp .eq 9, 0, 224), (218, .iload 9, 0, 0), (220, .iconst (-1), (-1), 0), (221, .if_icmp .ne 24, 0, 245)],
  [(224, .aload_n 0, 0, 0), (225, .getfield 48, 0, 1016), (228, .iload 5, 0, 0), (230, .iaload, 0, 0), (231, .aload_n 0, 0, 0), (232, .getfield 57, 0, 1019), (235, .iload 5, 0, 0), (237, .iaload, 0, 0), (238, .if_icmp .ne 7, 0, 245)],
  [(241, .iconst 1, 1, 0), (242, .goto 4, 0, 246), (245, .iconst 0, 0, 0), (246, .ireturn, 0, 0)]]
def qp_k206 : List (List (Nat × Instr × Int32 × Nat)) := [
  [(0, .iload_n 1, 0, 0), (1, .invokestatic 93, 0, 1481), (4, .ifCond .ne 5, 0, 9), (7, .iconst (-1), (-1), 0), (8, .ireturn, 0, 0), (9, .aload_n 0, 0, 0), (10, .getfield 7, 0, 1000), (13, .iconst 0, 0, 0), (14, .iaload, 0, 0), (15, .ifCond .ne 6, 0, 21)],
  [(18, .bipush (-4), (-4), 0), (20, .ireturn, 0, 0), (21, .aload_n 0, 0, 0), (22, .iload_n 1, 0, 0), (23, .invokevirtual 230, 0, 2070), (26, .istore_n 2, 0, 0), (27, .iload_n 2, 0, 0), (28, .ifCond .eq 5, 0, 33), (31, .iload_n 2, 0, 0)],
  [(32, .ireturn, 0, 0), (33, .iconst 0, 0, 0), (34, .istore_n 3, 0, 0), (35, .iconst 0, 0, 0), (36, .istore 4, 0, 0), (38, .iload 4, 0, 0), (40, .aload_n 0, 0, 0), (41, .invokevirtual 233, 0, 2080), (44, .if_icmp .ge 27, 0, 71), (47, .iload_n 3, 0, 0)],
  [(48, .aload_n 0, 0, 0), (49, .iload 4, 0, 0), (51, .iload_n 1, 0, 0), (52, .invokevirtual 237, 0, 2090), (55, .ifCond .eq 7, 0, 62), (58, .iconst 1, 1, 0), (59, .goto 4, 0, 63), (62, .iconst 0, 0, 0), (63, .iadd, 0, 0)],
  [(64, .istore_n 3, 0, 0), (65, .iinc 4 1, 1, 0), (68, .goto (-30), 0, 38), (71, .aload_n 0, 0, 0), (72, .iload_n 3, 0, 0), (73, .i2l, 0, 0), (74, .putfield 240, 0, 1010), (77, .aload_n 0, 0, 0), (78, .lconst 1, 0, 0), (79, .putfield 35, 0, 1011)],
  [(82, .iconst 1, 1, 0), (83, .ireturn, 0, 0)]]
def qp_k207 : List (List (Nat × Instr × Int32 × Nat)) := [
  [(0, .aload_n 0, 0, 0), (1, .getfield 23, 0, 1004), (4, .iload_n 1, 0, 0), (5, .iaload, 0, 0), (6, .ifCond .ge 9, 0, 15), (9, .aload_n 0, 0, 0), (10, .iconst 1, 1, 0), (11, .invokevirtual 97, 0, 1500), (14, .ireturn, 0, 0), (15, .aload_n 0, 0, 0)],
  [(16, .getfield 23, 0, 1004), (19, .iload_n 1, 0, 0), (20, .iaload, 0, 0), (21, .iconst 2, 2, 0), (22, .irem, 0, 0), (23, .ifCond .ne 14, 0, 37), (26, .aload_n 0, 0, 0), (27, .getfield 23, 0, 1004), (30, .iload_n 1, 0, 0), (31, .iaload, 0, 0)],
  [(32, .bipush 16, 16, 0), (34, .if_icmp .le 9, 0, 43), (37, .aload_n 0, 0, 0), (38, .iconst 5, 5, 0), (39, .invokevirtual 97, 0, 1500), (42, .ireturn, 0, 0), (43, .iconst 0, 0, 0), (44, .istore_n 2, 0, 0), (45, .iload_n 2, 0, 0), (46, .aload_n 0, 0, 0), (47, .getfield 23, 0, 1004)],
  [(50, .iload_n 1, 0, 0), (51, .iaload, 0, 0), (52, .if_icmp .ge 55, 0, 107), (55, .aload_n 0, 0, 0), (56, .getfield 20, 0, 1003), (59, .bipush 40, 40, 0), (61, .iload_n 1, 0, 0), (62, .imul, 0, 0), (63, .iload_n 2, 0, 0)],
  [(64, .iadd, 0, 0), (65, .iaload, 0, 0), (66, .i2l, 0, 0), (67, .lconst 0, 0, 0), (68, .iload_n 2, 0, 0), (69, .iconst 2, 2, 0), (70, .irem, 0, 0), (71, .ifCond .ne 15, 0, 86), (74, .aload_n 0, 0, 0), (75, .getfield 7, 0, 1000), (78, .iconst 0, 0, 0), (79, .iaload, 0, 0)],
  [(80, .iconst 1, 1, 0), (81, .isub, 0, 0), (82, .i2l, 0, 0), (83, .goto 6, 0, 89), (86, .ldc2_w 222, 0, 0), (89, .invokestatic 87, 0, 1491), (92, .ifCond .ne 9, 0, 101), (95, .aload_n 0, 0, 0)],
  [(96, .iconst 3, 3, 0), (97, .invokevirtual 97, 0, 1500), (100, .ireturn, 0, 0), (101, .iinc 2 1, 1, 0), (104, .goto (-59), 0, 45), (107, .iconst 0, 0, 0), (108, .ireturn, 0, 0)]]
def qp_k208 : List (List (Nat × Instr × Int32 × Nat)) := [
  [(0, .iconst 1, 1, 0), (1, .istore_n 1, 0, 0), (2, .iconst 2, 2, 0), (3, .istore_n 2, 0, 0), (4, .iload_n 2, 0, 0), (5, .aload_n 0, 0, 0), (6, .getfield 7, 0, 1000), (9, .iconst 0, 0, 0), (10, .iaload, 0, 0), (11, .if_icmp .gt 13, 0, 24), (14, .iload_n 1, 0, 0), (15, .iload_n 2, 0, 0)],
  [(16, .imul, 0, 0), (17, .istore_n 1, 0, 0), (18, .iinc 2 1, 1, 0), (21, .goto (-17), 0, 4), (24, .iload_n 1, 0, 0), (25, .ireturn, 0, 0)]]
def qp_k209 : List (List (Nat × Instr × Int32 × Nat)) := [
  [(0, .iconst 1, 1, 0), (1, .istore_n 3, 0, 0), (2, .aload_n 0, 0, 0), (3, .iload_n 1, 0, 0), (4, .invokevirtual 227, 0, 2100), (7, .aload_n 0, 0, 0), (8, .aload_n 0, 0, 0), (9, .getfield 63, 0, 1022), (12, .iconst 0, 0, 0), (13, .aload_n 0, 0, 0), (14, .getfield 7, 0, 1000)],
  [(17, .iconst 0, 0, 0), (18, .iaload, 0, 0), (19, .invokevirtual 171, 0, 1740), (22, .iconst 0, 0, 0), (23, .istore 4, 0, 0), (25, .iload 4, 0, 0), (27, .iconst 1, 1, 0), (28, .iadd, 0, 0), (29, .aload_n 0, 0, 0), (30, .getfield 23, 0, 1004)],
  [(33, .iload_n 2, 0, 0), (34, .iaload, 0, 0), (35, .if_icmp .ge 53, 0, 88), (38, .iload_n 3, 0, 0), (39, .ifCond .eq 49, 0, 88), (42, .aload_n 0, 0, 0), (43, .getfield 48, 0, 1016), (46, .aload_n 0, 0, 0), (47, .getfield 20, 0, 1003)],
  [(50, .bipush 40, 40, 0), (52, .iload_n 2, 0, 0), (53, .imul, 0, 0), (54, .iload 4, 0, 0), (56, .iadd, 0, 0), (57, .iaload, 0, 0), (58, .iaload, 0, 0), (59, .aload_n 0, 0, 0), (60, .getfield 20, 0, 1003), (63, .bipush 40, 40, 0)],
  [(65, .iload_n 2, 0, 0), (66, .imul, 0, 0), (67, .iload 4, 0, 0), (69, .iadd, 0, 0), (70, .iconst 1, 1, 0), (71, .iadd, 0, 0), (72, .iaload, 0, 0), (73, .if_icmp .ne 7, 0, 80), (76, .iconst 1, 1, 0), (77, .goto 4, 0, 81)],
  [(80, .iconst 0, 0, 0), (81, .istore_n 3, 0, 0), (82, .iinc 4 2, 2, 0), (85, .goto (-60), 0, 25), (88, .iload_n 3, 0, 0), (89, .ireturn, 0, 0)]]
def qp_k210 : List (List (Nat × Instr × Int32 × Nat)) := [
  [(0, .aload_n 0, 0, 0), (1, .getfield 7, 0, 1000), (4, .iconst 0, 0, 0), (5, .iaload, 0, 0), (6, .istore_n 2, 0, 0), (7, .iconst 1, 1, 0), (8, .iload_n 2, 0, 0), (9, .ishl, 0, 0), (10, .iconst 1, 1, 0), (11, .isub, 0, 0), (12, .istore_n 3, 0, 0), (13, .iload_n 1, 0, 0), (14, .istore 4, 0, 0)],
  [(16, .iconst 1, 1, 0), (17, .istore 5, 0, 0), (19, .iconst 2, 2, 0), (20, .istore 6, 0, 0), (22, .iload 6, 0, 0), (24, .iload_n 2, 0, 0), (25, .if_icmp .ge 16, 0, 41), (28, .iload 5, 0, 0), (30, .iload 6, 0, 0)],
  [(32, .imul, 0, 0), (33, .istore 5, 0, 0), (35, .iinc 6 1, 1, 0), (38, .goto (-16), 0, 22), (41, .iconst 0, 0, 0), (42, .istore 6, 0, 0), (44, .iload 6, 0, 0), (46, .iload_n 2, 0, 0), (47, .if_icmp .ge 106, 0, 153)],
  [(50, .iload 4, 0, 0), (52, .iload 5, 0, 0), (54, .idiv, 0, 0), (55, .istore 7, 0, 0), (57, .iconst 0, 0, 0), (58, .istore 8, 0, 0), (60, .iload 4, 0, 0), (62, .iload 5, 0, 0)],
  [(64, .irem, 0, 0), (65, .istore 4, 0, 0), (67, .iload 6, 0, 0), (69, .iload_n 2, 0, 0), (70, .iconst 2, 2, 0), (71, .isub, 0, 0), (72, .if_icmp .ge 15, 0, 87), (75, .iload 5, 0, 0), (77, .iload_n 2, 0, 0), (78, .iconst 1, 1, 0), (79, .isub, 0, 0)],
  [(80, .iload 6, 0, 0), (82, .isub, 0, 0), (83, .idiv, 0, 0), (84, .goto 4, 0, 88), (87, .iconst 1, 1, 0), (88, .istore 5, 0, 0), (90, .iload_n 3, 0, 0), (91, .iload 8, 0, 0), (93, .invokestatic 224, 0, 2111)],
  [(96, .ifCond .eq 8, 0, 104), (99, .iload 7, 0, 0), (101, .ifCond .le 28, 0, 129), (104, .iload 7, 0, 0), (106, .iload_n 3, 0, 0), (107, .iload 8, 0, 0), (109, .invokestatic 224, 0, 2111)],
  [(112, .ifCond .eq 7, 0, 119), (115, .iconst 1, 1, 0), (116, .goto 4, 0, 120), (119, .iconst 0, 0, 0), (120, .isub, 0, 0), (121, .istore 7, 0, 0), (123, .iinc 8 1, 1, 0), (126, .goto (-36), 0, 90)],
  [(129, .aload_n 0, 0, 0), (130, .getfield 63, 0, 1022), (133, .iload 6, 0, 0), (135, .iload 8, 0, 0), (137, .iastore, 0, 0), (138, .iload_n 3, 0, 0), (139, .iconst 1, 1, 0), (140, .iload 8, 0, 0), (142, .ishl, 0, 0), (143, .iconst (-1), (-1), 0)],
  [(144, .ixor, 0, 0), (145, .iand, 0, 0), (146, .istore_n 3, 0, 0), (147, .iinc 6 1, 1, 0), (150, .goto (-106), 0, 44), (153, .return_, 0, 0)]]
def qp_k211 : List (List (Nat × Instr × Int32 × Nat)) := [
  [(0, .iload_n 0, 0, 0), (1, .iload_n 1, 0, 0), (2, .ishr, 0, 0), (3, .iconst 1, 1, 0), (4, .iand, 0, 0), (5, .iconst 1, 1, 0), (6, .if_icmp .ne 7, 0, 13), (9, .iconst 1, 1, 0), (10, .goto 4, 0, 14), (13, .iconst 0, 0, 0), (14, .ireturn, 0, 0)]]
def qp_k212 : List (List (Nat × Instr × Int32 × Nat)) := [
  [(0, .iload_n 1, 0, 0), (1, .invokestatic 93, 0, 1481), (4, .ifCond .eq 11, 0, 15), (7, .aload_n 0, 0, 0), (8, .iload_n 2, 0, 0), (9, .invokevirtual 184, 0, 1710), (12, .ifCond .ne 5, 0, 17), (15, .iconst (-1), (-1), 0)],
  [(16, .ireturn, 0, 0), (17, .aload_n 0, 0, 0), (18, .iload_n 1, 0, 0), (19, .invokevirtual 230, 0, 2070), (22, .istore_n 3, 0, 0), (23, .iload_n 3, 0, 0), (24, .ifCond .eq 5, 0, 29), (27, .iload_n 3, 0, 0), (28, .ireturn, 0, 0), (29, .iconst 0, 0, 0), (30, .istore 4, 0, 0)],
  [(32, .iconst 0, 0, 0), (33, .istore 5, 0, 0), (35, .iload 5, 0, 0), (37, .aload_n 0, 0, 0), (38, .invokevirtual 233, 0, 2080), (41, .if_icmp .ge 36, 0, 77), (44, .iload 4, 0, 0), (46, .aload_n 0, 0, 0), (47, .iload 5, 0, 0)],
  [(49, .iload_n 1, 0, 0), (50, .invokevirtual 237, 0, 2090), (53, .ifCond .eq 14, 0, 67), (56, .iconst 1, 1, 0), (57, .aload_n 0, 0, 0), (58, .getfield 63, 0, 1022), (61, .iload_n 2, 0, 0), (62, .iaload, 0, 0), (63, .ishl, 0, 0)],
  [(64, .goto 4, 0, 68), (67, .iconst 0, 0, 0), (68, .ior, 0, 0), (69, .istore 4, 0, 0), (71, .iinc 5 1, 1, 0), (74, .goto (-39), 0, 35), (77, .iload 4, 0, 0), (79, .ireturn, 0, 0)]]
def qp_k213 : List (List (Nat × Instr × Int32 × Nat)) := [
  [(0, .iload_n 1, 0, 0), (1, .invokestatic 93, 0, 1481), (4, .ifCond .ne 5, 0, 9), (7, .iconst (-1), (-1), 0), (8, .ireturn, 0, 0), (9, .aload_n 0, 0, 0), (10, .getfield 7, 0, 1000), (13, .iconst 0, 0, 0), (14, .iaload, 0, 0), (15, .ifCond .ne 6, 0, 21)],
  [(18, .bipush (-4), (-4), 0), (20, .ireturn, 0, 0), (21, .aload_n 0, 0, 0), (22, .iload_n 1, 0, 0), (23, .invokevirtual 230, 0, 2070), (26, .istore_n 2, 0, 0), (27, .iload_n 2, 0, 0), (28, .ifCond .eq 5, 0, 33), (31, .iload_n 2, 0, 0)],
  [(32, .ireturn, 0, 0), (33, .iconst 0, 0, 0), (34, .istore_n 3, 0, 0), (35, .iconst 0, 0, 0), (36, .istore 4, 0, 0), (38, .iload 4, 0, 0), (40, .bipush 24, 24, 0), (42, .if_icmp .ge 17, 0, 59), (45, .aload_n 0, 0, 0), (46, .getfield 66, 0, 1023)],
  [(49, .iload 4, 0, 0), (51, .iconst 0, 0, 0), (52, .iastore, 0, 0), (53, .iinc 4 1, 1, 0), (56, .goto (-18), 0, 38), (59, .iconst 0, 0, 0), (60, .istore 4, 0, 0), (62, .iload 4, 0, 0)],
  [(64, .aload_n 0, 0, 0), (65, .invokevirtual 233, 0, 2080), (68, .if_icmp .ge 63, 0, 131), (71, .aload_n 0, 0, 0), (72, .iload 4, 0, 0), (74, .iload_n 1, 0, 0), (75, .invokevirtual 237, 0, 2090), (78, .ifCond .eq 47, 0, 125)],
  [(81, .iinc 3 1, 1, 0), (84, .iconst 0, 0, 0), (85, .istore 5, 0, 0), (87, .iload 5, 0, 0), (89, .aload_n 0, 0, 0), (90, .getfield 7, 0, 1000), (93, .iconst 0, 0, 0), (94, .iaload, 0, 0), (95, .if_icmp .ge 30, 0, 125)],
  [(98, .aload_n 0, 0, 0), (99, .getfield 66, 0, 1023), (102, .iconst 4, 4, 0), (103, .iload 5, 0, 0), (105, .imul, 0, 0), (106, .aload_n 0, 0, 0), (107, .getfield 48, 0, 1016), (110, .iload 5, 0, 0)],
  [(112, .iaload, 0, 0), (113, .iadd, 0, 0), (114, .dup2, 0, 0), (115, .iaload, 0, 0), (116, .iconst 1, 1, 0), (117, .iadd, 0, 0), (118, .iastore, 0, 0), (119, .iinc 5 1, 1, 0), (122, .goto (-35), 0, 87), (125, .iinc 4 1, 1, 0)],
  [(128, .goto (-66), 0, 62), (131, .bipush (-9), (-9), 0), (133, .istore 4, 0, 0), (135, .ldc 243, 1000000, 0), (137, .istore 5, 0, 0), (139, .iconst 0, 0, 0), (140, .istore 6, 0, 0), (142, .iload 6, 0, 0)],
  [(144, .aload_n 0, 0, 0), (145, .getfield 7, 0, 1000), (148, .iconst 0, 0, 0), (149, .iaload, 0, 0), (150, .if_icmp .ge 99, 0, 249), (153, .iload_n 3, 0, 0), (154, .ifCond .le 95, 0, 249), (157, .iconst 0, 0, 0), (158, .istore 7, 0, 0)],
  [(160, .iconst 0, 0, 0), (161, .istore 8, 0, 0), (163, .iload 8, 0, 0), (165, .iconst 4, 4, 0), (166, .if_icmp .ge 45, 0, 211), (169, .aload_n 0, 0, 0), (170, .getfield 66, 0, 1023), (173, .iconst 4, 4, 0), (174, .iload 6, 0, 0)],
  [(176, .imul, 0, 0), (177, .iload 8, 0, 0), (179, .iadd, 0, 0), (180, .iaload, 0, 0), (181, .iload 7, 0, 0), (183, .if_icmp .le 18, 0, 201), (186, .aload_n 0, 0, 0), (187, .getfield 66, 0, 1023), (190, .iconst 4, 4, 0), (191, .iload 6, 0, 0)],
  [(193, .imul, 0, 0), (194, .iload 8, 0, 0), (196, .iadd, 0, 0), (197, .iaload, 0, 0), (198, .goto 5, 0, 203), (201, .iload 7, 0, 0), (203, .istore 7, 0, 0), (205, .iinc 8 1, 1, 0)],
  [(208, .goto (-45), 0, 163), (211, .iload 7, 0, 0), (213, .iload 5, 0, 0), (215, .if_icmp .ge 8, 0, 223), (218, .iload 6, 0, 0), (220, .goto 5, 0, 225), (223, .iload 4, 0, 0)],
  [(225, .istore 4, 0, 0), (227, .iload 7, 0, 0), (229, .iload 5, 0, 0), (231, .if_icmp .ge 8, 0, 239), (234, .iload 7, 0, 0), (236, .goto 5, 0, 241), (239, .iload 5, 0, 0)],
  [(241, .istore 5, 0, 0), (243, .iinc 6 1, 1, 0), (246, .goto (-104), 0, 142), (249, .iload 4, 0, 0), (251, .bipush (-9), (-9), 0), (253, .if_icmp .ne 7, 0, 260)],
  [(256, .iconst 0, 0, 0), (257, .goto 9, 0, 266), (260, .aload_n 0, 0, 0), (261, .iload 5, 0, 0), (263, .invokevirtual 105, 0, 1530), (266, .istore 6, 0, 0), (268, .iload 4, 0, 0), (270, .ireturn, 0, 0)]]
def qp_k214 : List (List (Nat × Instr × Int32 × Nat)) := [
  [(0, .iload_n 1, 0, 0), (1, .i2l, 0, 0), (2, .lconst 0, 0, 0), (3, .ldc2_w 205, 0, 0), (6, .invokestatic 87, 0, 1491), (9, .ifCond .ne 5, 0, 14), (12, .iconst (-1), (-1), 0), (13, .ireturn, 0, 0), (14, .aload_n 0, 0, 0), (15, .getfield 7, 0, 1000)],
  [(18, .iconst 0, 0, 0), (19, .iaload, 0, 0), (20, .ifCond .ne 6, 0, 26), (23, .bipush (-4), (-4), 0), (25, .ireturn, 0, 0), (26, .iconst 0, 0, 0), (27, .istore_n 2, 0, 0), (28, .bipush (-9), (-9), 0), (30, .istore_n 3, 0, 0), (31, .iconst 0, 0, 0)],
  [(32, .istore 4, 0, 0), (34, .iload 4, 0, 0), (36, .iconst 1, 1, 0), (37, .aload_n 0, 0, 0), (38, .getfield 7, 0, 1000), (41, .iconst 0, 0, 0), (42, .iaload, 0, 0), (43, .ishl, 0, 0), (44, .if_icmp .ge 33, 0, 77), (47, .aload_n 0, 0, 0)],
  [(48, .iload 4, 0, 0), (50, .invokevirtual 244, 0, 2150), (53, .iload_n 1, 0, 0), (54, .if_icmp .ne 17, 0, 71), (57, .iload_n 2, 0, 0), (58, .ifCond .ne 8, 0, 66), (61, .iload 4, 0, 0), (63, .goto 4, 0, 67)],
  [(66, .iload_n 3, 0, 0), (67, .istore_n 3, 0, 0), (68, .iinc 2 1, 1, 0), (71, .iinc 4 1, 1, 0), (74, .goto (-40), 0, 34), (77, .aload_n 0, 0, 0), (78, .iload_n 2, 0, 0), (79, .i2l, 0, 0)],
  [(80, .putfield 240, 0, 1010), (83, .aload_n 0, 0, 0), (84, .lconst 1, 0, 0), (85, .putfield 35, 0, 1011), (88, .aload_n 0, 0, 0), (89, .iload_n 3, 0, 0), (90, .invokevirtual 105, 0, 1530), (93, .ireturn, 0, 0)]]
def qp_k215 : List (List (Nat × Instr × Int32 × Nat)) := [
  [(0, .iconst 0, 0, 0), (1, .istore_n 2, 0, 0), (2, .iconst 0, 0, 0), (3, .istore_n 3, 0, 0), (4, .iload_n 3, 0, 0), (5, .aload_n 0, 0, 0), (6, .getfield 7, 0, 1000), (9, .iconst 0, 0, 0), (10, .iaload, 0, 0), (11, .if_icmp .ge 65, 0, 76), (14, .aload_n 0, 0, 0), (15, .getfield 7, 0, 1000)],
  [(18, .bipush 69, 69, 0), (20, .iload_n 3, 0, 0), (21, .iadd, 0, 0), (22, .iaload, 0, 0), (23, .istore 4, 0, 0), (25, .iload_n 2, 0, 0), (26, .iload_n 1, 0, 0), (27, .iload 4, 0, 0), (29, .invokestatic 224, 0, 2111)],
  [(32, .ifCond .eq 35, 0, 67), (35, .aload_n 0, 0, 0), (36, .getfield 7, 0, 1000), (39, .iconst 2, 2, 0), (40, .iload 4, 0, 0), (42, .iadd, 0, 0), (43, .iaload, 0, 0), (44, .iload_n 3, 0, 0), (45, .aload_n 0, 0, 0), (46, .getfield 7, 0, 1000)],
  [(49, .iconst 0, 0, 0), (50, .iaload, 0, 0), (51, .iconst 1, 1, 0), (52, .isub, 0, 0), (53, .if_icmp .ne 7, 0, 60), (56, .iconst 1, 1, 0), (57, .goto 4, 0, 61), (60, .iconst 0, 0, 0), (61, .invokestatic 167, 0, 1761)],
  [(64, .goto 4, 0, 68), (67, .iconst 0, 0, 0), (68, .iadd, 0, 0), (69, .istore_n 2, 0, 0), (70, .iinc 3 1, 1, 0), (73, .goto (-69), 0, 4), (76, .iload_n 2, 0, 0), (77, .ireturn, 0, 0)]]
def qp_k216 : List (List (Nat × Instr × Int32 × Nat)) := [
  [(0, .iload_n 1, 0, 0), (1, .i2l, 0, 0), (2, .lconst 0, 0, 0), (3, .ldc2_w 205, 0, 0), (6, .invokestatic 87, 0, 1491), (9, .ifCond .ne 5, 0, 14), (12, .iconst (-1), (-1), 0), (13, .ireturn, 0, 0), (14, .aload_n 0, 0, 0), (15, .getfield 7, 0, 1000)],
  [(18, .iconst 0, 0, 0), (19, .iaload, 0, 0), (20, .ifCond .ne 6, 0, 26), (23, .bipush (-4), (-4), 0), (25, .ireturn, 0, 0), (26, .iconst 1, 1, 0), (27, .aload_n 0, 0, 0), (28, .getfield 7, 0, 1000), (31, .iconst 0, 0, 0)],
  [(32, .iaload, 0, 0), (33, .ishl, 0, 0), (34, .iconst 1, 1, 0), (35, .isub, 0, 0), (36, .istore_n 2, 0, 0), (37, .iload_n 2, 0, 0), (38, .istore_n 3, 0, 0), (39, .iconst 0, 0, 0), (40, .istore 4, 0, 0), (42, .iconst 0, 0, 0), (43, .istore 5, 0, 0), (45, .iconst 0, 0, 0), (46, .istore 6, 0, 0)],
  [(48, .iload 6, 0, 0), (50, .iload_n 2, 0, 0), (51, .if_icmp .gt 34, 0, 85), (54, .aload_n 0, 0, 0), (55, .iload 6, 0, 0), (57, .invokevirtual 244, 0, 2150), (60, .iload_n 1, 0, 0), (61, .if_icmp .ne 18, 0, 79)],
  [(64, .iconst 1, 1, 0), (65, .istore 5, 0, 0), (67, .iload_n 3, 0, 0), (68, .iload 6, 0, 0), (70, .iand, 0, 0), (71, .istore_n 3, 0, 0), (72, .iload 4, 0, 0), (74, .iload 6, 0, 0), (76, .ior, 0, 0), (77, .istore 4, 0, 0), (79, .iinc 6 1, 1, 0)],
  [(82, .goto (-34), 0, 48), (85, .iload 5, 0, 0), (87, .ifCond .ne 9, 0, 96), (90, .aload_n 0, 0, 0), (91, .iconst 4, 4, 0), (92, .invokevirtual 97, 0, 1500), (95, .ireturn, 0, 0)],
  [(96, .aload_n 0, 0, 0), (97, .iload_n 2, 0, 0), (98, .iload 4, 0, 0), (100, .iconst (-1), (-1), 0), (101, .ixor, 0, 0), (102, .iand, 0, 0), (103, .invokevirtual 105, 0, 1530), (106, .istore 6, 0, 0), (108, .iload_n 3, 0, 0), (109, .ireturn, 0, 0)]]
def qp_k217 : List (List (Nat × Instr × Int32 × Nat)) := [
  [(0, .aload_n 0, 0, 0), (1, .iload_n 1, 0, 0), (2, .invokevirtual 184, 0, 1710), (5, .ifCond .eq 28, 0, 33), (8, .aload_n 0, 0, 0), (9, .iload_n 2, 0, 0), (10, .invokevirtual 184, 0, 1710), (13, .ifCond .eq 20, 0, 33)],
  [(16, .iload_n 1, 0, 0), (17, .iload_n 2, 0, 0), (18, .if_icmp .eq 15, 0, 33), (21, .iload_n 3, 0, 0), (22, .i2l, 0, 0), (23, .lconst 0, 0, 0), (24, .ldc2_w 207, 0, 0), (27, .invokestatic 87, 0, 1491), (30, .ifCond .ne 5, 0, 35)],
  [(33, .iconst (-1), (-1), 0), (34, .ireturn, 0, 0), (35, .iconst 2, 2, 0), (36, .iload_n 3, 0, 0), (37, .imul, 0, 0), (38, .istore 4, 0, 0), (40, .iconst 0, 0, 0), (41, .istore 5, 0, 0), (43, .iconst 0, 0, 0), (44, .istore 6, 0, 0), (46, .iload 6, 0, 0)],
  [(48, .iload 4, 0, 0), (50, .if_icmp .ge 29, 0, 79), (53, .aload_n 0, 0, 0), (54, .getfield 69, 0, 1024), (57, .iload 6, 0, 0), (59, .iconst 0, 0, 0), (60, .iastore, 0, 0), (61, .aload_n 0, 0, 0), (62, .getfield 72, 0, 1025)],
  [(65, .iload 6, 0, 0), (67, .iload 6, 0, 0), (69, .invokestatic 248, 0, 2181), (72, .iastore, 0, 0), (73, .iinc 6 1, 1, 0), (76, .goto (-30), 0, 46), (79, .iconst 1, 1, 0)],
  [(80, .istore 6, 0, 0), (82, .iload 6, 0, 0), (84, .ifCond .eq 191, 0, 275), (87, .aload_n 0, 0, 0), (88, .iload_n 1, 0, 0), (89, .iload_n 2, 0, 0), (90, .iload 4, 0, 0), (92, .invokevirtual 251, 0, 2190), (95, .istore 5, 0, 0)],
  [(97, .iload 4, 0, 0), (99, .iconst 1, 1, 0), (100, .isub, 0, 0), (101, .istore 7, 0, 0), (103, .iconst 1, 1, 0), (104, .istore 8, 0, 0), (106, .iload 7, 0, 0), (108, .ifCond .lt 152, 0, 260), (111, .iload 8, 0, 0)],
  [(113, .ifCond .eq 147, 0, 260), (116, .iload 7, 0, 0), (118, .iconst 2, 2, 0), (119, .irem, 0, 0), (120, .ifCond .ne 23, 0, 143), (123, .iload 5, 0, 0), (125, .aload_n 0, 0, 0), (126, .getfield 72, 0, 1025)],
  [(129, .iload 7, 0, 0), (131, .iaload, 0, 0), (132, .if_icmp .le 7, 0, 139), (135, .iconst 1, 1, 0), (136, .goto 24, 0, 160), (139, .iconst 0, 0, 0), (140, .goto 20, 0, 160), (143, .iload 5, 0, 0)],
  [(145, .aload_n 0, 0, 0), (146, .getfield 72, 0, 1025), (149, .iload 7, 0, 0), (151, .iaload, 0, 0), (152, .if_icmp .ge 7, 0, 159), (155, .iconst 1, 1, 0), (156, .goto 4, 0, 160), (159, .iconst 0, 0, 0)],
  [(160, .istore 9, 0, 0), (162, .aload_n 0, 0, 0), (163, .getfield 72, 0, 1025), (166, .iload 7, 0, 0), (168, .iload 9, 0, 0), (170, .ifCond .eq 8, 0, 178), (173, .iload 5, 0, 0), (175, .goto 10, 0, 185)],
  [(178, .aload_n 0, 0, 0), (179, .getfield 72, 0, 1025), (182, .iload 7, 0, 0), (184, .iaload, 0, 0), (185, .iastore, 0, 0), (186, .aload_n 0, 0, 0), (187, .getfield 69, 0, 1024), (190, .iload 7, 0, 0)],
  [(192, .dup2, 0, 0), (193, .iaload, 0, 0), (194, .iconst 1, 1, 0), (195, .iadd, 0, 0), (196, .iastore, 0, 0), (197, .aload_n 0, 0, 0), (198, .getfield 69, 0, 1024), (201, .iload 7, 0, 0), (203, .iaload, 0, 0), (204, .aload_n 0, 0, 0), (205, .getfield 7, 0, 1000)],
  [(208, .iconst 0, 0, 0), (209, .iaload, 0, 0), (210, .if_icmp .ne 7, 0, 217), (213, .iconst 1, 1, 0), (214, .goto 4, 0, 218), (217, .iconst 0, 0, 0), (218, .istore 8, 0, 0), (220, .iload 8, 0, 0), (222, .ifCond .eq 35, 0, 257)],
  [(225, .aload_n 0, 0, 0), (226, .getfield 72, 0, 1025), (229, .iload 7, 0, 0), (231, .iaload, 0, 0), (232, .istore 5, 0, 0), (234, .aload_n 0, 0, 0), (235, .getfield 69, 0, 1024), (238, .iload 7, 0, 0)],
  [(240, .iconst 0, 0, 0), (241, .iastore, 0, 0), (242, .aload_n 0, 0, 0), (243, .getfield 72, 0, 1025), (246, .iload 7, 0, 0), (248, .iload 7, 0, 0), (250, .invokestatic 248, 0, 2181), (253, .iastore, 0, 0), (254, .iinc 7 (-1), (-1), 0)],
  [(257, .goto (-151), 0, 106), (260, .iload 7, 0, 0), (262, .ifCond .lt 7, 0, 269), (265, .iconst 1, 1, 0), (266, .goto 4, 0, 270), (269, .iconst 0, 0, 0), (270, .istore 6, 0, 0)],
  [(272, .goto (-190), 0, 82), (275, .aload_n 0, 0, 0), (276, .iload 5, 0, 0), (278, .invokevirtual 105, 0, 1530), (281, .ireturn, 0, 0)]]
def qp_k218 : List (List (Nat × Instr × Int32 × Nat)) := [
  [(0, .iload_n 0, 0, 0), (1, .iconst 2, 2, 0), (2, .irem, 0, 0), (3, .ifCond .ne 8, 0, 11), (6, .ldc 247, (-1000000), 0), (8, .goto 5, 0, 13), (11, .ldc 243, 1000000, 0), (13, .ireturn, 0, 0)]]
def qp_k219 : List (List (Nat × Instr × Int32 × Nat)) := [
  [(0, .aload_n 0, 0, 0), (1, .invokevirtual 212, 0, 2010), (4, .iconst 0, 0, 0), (5, .istore 4, 0, 0), (7, .iload 4, 0, 0), (9, .iload_n 3, 0, 0), (10, .if_icmp .ge 43, 0, 53), (13, .aload_n 0, 0, 0), (14, .getfield 45, 0, 1015)],
  [(17, .bipush 69, 69, 0), (19, .aload_n 0, 0, 0), (20, .getfield 7, 0, 1000), (23, .iconst 0, 0, 0), (24, .iaload, 0, 0), (25, .iload 4, 0, 0), (27, .iconst 2, 2, 0), (28, .irem, 0, 0), (29, .ifCond .ne 7, 0, 36)],
  [(32, .iload_n 1, 0, 0), (33, .goto 4, 0, 37), (36, .iload_n 2, 0, 0), (37, .aload_n 0, 0, 0), (38, .getfield 69, 0, 1024), (41, .iload 4, 0, 0), (43, .iaload, 0, 0), (44, .invokestatic 147, 0, 1881), (47, .iinc 4 1, 1, 0)],
  [(50, .goto (-43), 0, 7), (53, .aload_n 0, 0, 0), (54, .aload_n 0, 0, 0), (55, .getfield 45, 0, 1015), (58, .bipush 69, 69, 0), (60, .aload_n 0, 0, 0), (61, .getfield 7, 0, 1000)],
  [(64, .iconst 0, 0, 0), (65, .iaload, 0, 0), (66, .invokevirtual 171, 0, 1740), (69, .aload_n 0, 0, 0), (70, .getfield 48, 0, 1016), (73, .iload_n 1, 0, 0), (74, .iaload, 0, 0), (75, .aload_n 0, 0, 0), (76, .getfield 48, 0, 1016), (79, .iload_n 2, 0, 0)],
  [(80, .iaload, 0, 0), (81, .isub, 0, 0), (82, .ireturn, 0, 0)]]
def qp_k220 : List (List (Nat × Instr × Int32 × Nat)) := [
  [(0, .aload_n 0, 0, 0), (1, .iload_n 1, 0, 0), (2, .invokevirtual 184, 0, 1710), (5, .ifCond .eq 15, 0, 20), (8, .iload_n 2, 0, 0), (9, .i2l, 0, 0), (10, .lconst 0, 0, 0), (11, .ldc2_w 255, 0, 0), (14, .invokestatic 87, 0, 1491)],
  [(17, .ifCond .ne 5, 0, 22), (20, .iconst (-1), (-1), 0), (21, .ireturn, 0, 0), (22, .aload_n 0, 0, 0), (23, .iload_n 1, 0, 0), (24, .iload_n 2, 0, 0), (25, .invokevirtual 261, 0, 2210), (28, .iconst 1, 1, 0), (29, .ireturn, 0, 0)]]
def qp_k221 : List (List (Nat × Instr × Int32 × Nat)) := [
  [(0, .lconst 0, 0, 0), (1, .lstore_n 3, 0, 0), (2, .lconst 1, 0, 0), (3, .lstore 5, 0, 0), (5, .iconst 0, 0, 0), (6, .istore 7, 0, 0), (8, .iload 7, 0, 0), (10, .aload_n 0, 0, 0), (11, .getfield 7, 0, 1000), (14, .iconst 0, 0, 0), (15, .iaload, 0, 0)],
  [(16, .if_icmp .ge 17, 0, 33), (19, .lload 5, 0, 0), (21, .ldc2_w 255, 0, 0), (24, .lmul, 0, 0), (25, .lstore 5, 0, 0), (27, .iinc 7 1, 1, 0), (30, .goto (-22), 0, 8)],
  [(33, .iconst 0, 0, 0), (34, .istore 7, 0, 0), (36, .iload 7, 0, 0), (38, .iconst 1, 1, 0), (39, .aload_n 0, 0, 0), (40, .getfield 7, 0, 1000), (43, .iconst 0, 0, 0), (44, .iaload, 0, 0), (45, .ishl, 0, 0), (46, .if_icmp .ge 164, 0, 210)],
  [(49, .lconst 1, 0, 0), (50, .lstore 8, 0, 0), (52, .iconst 0, 0, 0), (53, .istore 10, 0, 0), (55, .iconst 0, 0, 0), (56, .istore 11, 0, 0), (58, .iload 11, 0, 0), (60, .aload_n 0, 0, 0), (61, .getfield 7, 0, 1000)],
  [(64, .iconst 0, 0, 0), (65, .iaload, 0, 0), (66, .if_icmp .ge 68, 0, 134), (69, .aload_n 0, 0, 0), (70, .getfield 7, 0, 1000), (73, .bipush 69, 69, 0), (75, .iload 11, 0, 0), (77, .iadd, 0, 0), (78, .iaload, 0, 0), (79, .istore 12, 0, 0)],
  [(81, .lload 8, 0, 0), (83, .iload 7, 0, 0), (85, .iload 12, 0, 0), (87, .invokestatic 224, 0, 2111), (90, .ifCond .eq 8, 0, 98), (93, .iload_n 2, 0, 0), (94, .i2l, 0, 0), (95, .goto 8, 0, 103)],
  [(98, .bipush 12, 12, 0), (100, .iload_n 2, 0, 0), (101, .isub, 0, 0), (102, .i2l, 0, 0), (103, .lmul, 0, 0), (104, .lstore 8, 0, 0), (106, .iload 7, 0, 0), (108, .iload 12, 0, 0), (110, .invokestatic 224, 0, 2111)],
  [(113, .ifCond .ne 15, 0, 128), (116, .aload_n 0, 0, 0), (117, .getfield 75, 0, 1026), (120, .iload 10, 0, 0), (122, .iload 12, 0, 0), (124, .iastore, 0, 0), (125, .iinc 10 1, 1, 0)],
  [(128, .iinc 11 1, 1, 0), (131, .goto (-73), 0, 58), (134, .aload_n 0, 0, 0), (135, .aload_n 0, 0, 0), (136, .getfield 75, 0, 1026), (139, .iconst 0, 0, 0), (140, .iload 10, 0, 0), (142, .invokevirtual 171, 0, 1740)],
  [(145, .lload_n 3, 0, 0), (146, .iload_n 1, 0, 0), (147, .bipush (-9), (-9), 0), (149, .if_icmp .ne 14, 0, 163), (152, .lload 8, 0, 0), (154, .aload_n 0, 0, 0), (155, .getfield 161, 0, 1020), (158, .i2l, 0, 0), (159, .lmul, 0, 0)],
  [(160, .goto 42, 0, 202), (163, .iload 7, 0, 0), (165, .iload_n 1, 0, 0), (166, .invokestatic 224, 0, 2111), (169, .ifCond .ne 32, 0, 201), (172, .aload_n 0, 0, 0), (173, .getfield 57, 0, 1019)],
  [(176, .iload_n 1, 0, 0), (177, .iaload, 0, 0), (178, .ifCond .le 23, 0, 201), (181, .aload_n 0, 0, 0), (182, .getfield 48, 0, 1016), (185, .iload_n 1, 0, 0), (186, .iaload, 0, 0), (187, .aload_n 0, 0, 0), (188, .getfield 57, 0, 1019), (191, .iload_n 1, 0, 0)],
  [(192, .iaload, 0, 0), (193, .if_icmp .ne 8, 0, 201), (196, .lload 8, 0, 0), (198, .goto 4, 0, 202), (201, .lconst 0, 0, 0), (202, .ladd, 0, 0), (203, .lstore_n 3, 0, 0), (204, .iinc 7 1, 1, 0), (207, .goto (-171), 0, 36)],
  [(210, .aload_n 0, 0, 0), (211, .lload_n 3, 0, 0), (212, .lload 5, 0, 0), (214, .invokevirtual 257, 0, 2220), (217, .return_, 0, 0)]]
def qp_k222 : List (List (Nat × Instr × Int32 × Nat)) := [
  [(0, .lload_n 1, 0, 0), (1, .lstore 5, 0, 0), (3, .lload_n 3, 0, 0), (4, .lstore 7, 0, 0), (6, .lload 7, 0, 0), (8, .lconst 0, 0, 0), (9, .lcmp, 0, 0), (10, .ifCond .eq 21, 0, 31), (13, .lload 5, 0, 0), (15, .lload 7, 0, 0)],
  [(17, .lrem, 0, 0), (18, .lstore 9, 0, 0), (20, .lload 7, 0, 0), (22, .lstore 5, 0, 0), (24, .lload 9, 0, 0), (26, .lstore 7, 0, 0), (28, .goto (-22), 0, 6), (31, .aload_n 0, 0, 0)],
  [(32, .lload_n 1, 0, 0), (33, .lload 5, 0, 0), (35, .ldiv, 0, 0), (36, .putfield 240, 0, 1010), (39, .aload_n 0, 0, 0), (40, .lload_n 3, 0, 0), (41, .lload 5, 0, 0), (43, .ldiv, 0, 0), (44, .putfield 35, 0, 1011), (47, .return_, 0, 0)]]
def qp_k223 : List (List (Nat × Instr × Int32 × Nat)) := [
  [(0, .iload_n 1, 0, 0), (1, .i2l, 0, 0), (2, .lconst 0, 0, 0), (3, .ldc2_w 255, 0, 0), (6, .invokestatic 87, 0, 1491), (9, .ifCond .ne 5, 0, 14), (12, .iconst (-1), (-1), 0), (13, .ireturn, 0, 0), (14, .aload_n 0, 0, 0), (15, .getfield 7, 0, 1000)],
  [(18, .iconst 0, 0, 0), (19, .iaload, 0, 0), (20, .ifCond .ne 6, 0, 26), (23, .bipush (-4), (-4), 0), (25, .ireturn, 0, 0), (26, .aload_n 0, 0, 0), (27, .bipush (-9), (-9), 0), (29, .iload_n 1, 0, 0), (30, .invokevirtual 261, 0, 2210)],
  [(33, .iconst 1, 1, 0), (34, .ireturn, 0, 0)]]
def qp_k224 : List (List (Nat × Instr × Int32 × Nat)) := [
  [(0, .iload_n 1, 0, 0), (1, .i2l, 0, 0), (2, .lconst 1, 0, 0), (3, .ldc2_w 205, 0, 0), (6, .invokestatic 87, 0, 1491), (9, .ifCond .eq 15, 0, 24), (12, .iload_n 2, 0, 0), (13, .i2l, 0, 0), (14, .lconst 1, 0, 0), (15, .ldc2_w 271, 0, 0)],
  [(18, .invokestatic 87, 0, 1491), (21, .ifCond .ne 5, 0, 26), (24, .iconst (-1), (-1), 0), (25, .ireturn, 0, 0), (26, .aload_n 0, 0, 0), (27, .getfield 7, 0, 1000), (30, .iconst 0, 0, 0), (31, .iaload, 0, 0)],
  [(32, .ifCond .ne 6, 0, 38), (35, .bipush (-4), (-4), 0), (37, .ireturn, 0, 0), (38, .aload_n 0, 0, 0), (39, .getfield 7, 0, 1000), (42, .bipush 14, 14, 0), (44, .iaload, 0, 0), (45, .iload_n 1, 0, 0), (46, .iadd, 0, 0), (47, .bipush 40, 40, 0)],
  [(49, .if_icmp .le 6, 0, 55), (52, .bipush (-2), (-2), 0), (54, .ireturn, 0, 0), (55, .iload_n 2, 0, 0), (56, .i2l, 0, 0), (57, .lstore_n 3, 0, 0), (58, .iconst 0, 0, 0), (59, .istore 5, 0, 0), (61, .iload 5, 0, 0), (63, .iload_n 1, 0, 0)],
  [(64, .if_icmp .ge 30, 0, 94), (67, .lload_n 3, 0, 0), (68, .ldc2_w 273, 0, 0), (71, .lmul, 0, 0), (72, .ldc2_w 275, 0, 0), (75, .lrem, 0, 0), (76, .lstore_n 3, 0, 0), (77, .aload_n 0, 0, 0), (78, .aload_n 0, 0, 0), (79, .lload_n 3, 0, 0)],
  [(80, .invokevirtual 277, 0, 2250), (83, .invokevirtual 199, 0, 1840), (86, .istore 6, 0, 0), (88, .iinc 5 1, 1, 0), (91, .goto (-30), 0, 61), (94, .aload_n 0, 0, 0), (95, .invokevirtual 281, 0, 2260)],
  [(98, .ireturn, 0, 0)]]
def qp_k225 : List (List (Nat × Instr × Int32 × Nat)) := [
  [(0, .lload_n 1, 0, 0), (1, .ldc2_w 265, 0, 0), (4, .ldiv, 0, 0), (5, .ldc2_w 265, 0, 0), (8, .lrem, 0, 0), (9, .l2i, 0, 0), (10, .istore_n 3, 0, 0), (11, .lload_n 1, 0, 0), (12, .ldc2_w 267, 0, 0), (15, .ldiv, 0, 0)],
  [(16, .lstore 4, 0, 0), (18, .iload_n 3, 0, 0), (19, .bipush 6, 6, 0), (21, .if_icmp .ge 71, 0, 92), (24, .lload_n 1, 0, 0), (25, .aload_n 0, 0, 0), (26, .getfield 7, 0, 1000), (29, .iconst 0, 0, 0), (30, .iaload, 0, 0), (31, .i2l, 0, 0)],
  [(32, .lrem, 0, 0), (33, .l2i, 0, 0), (34, .istore 6, 0, 0), (36, .lload 4, 0, 0), (38, .aload_n 0, 0, 0), (39, .getfield 7, 0, 1000), (42, .iconst 0, 0, 0), (43, .iaload, 0, 0), (44, .i2l, 0, 0), (45, .lrem, 0, 0), (46, .l2i, 0, 0), (47, .istore 7, 0, 0)],
  [(49, .aload_n 0, 0, 0), (50, .getfield 7, 0, 1000), (53, .bipush 69, 69, 0), (55, .iload 7, 0, 0), (57, .iadd, 0, 0), (58, .iaload, 0, 0), (59, .iload 6, 0, 0), (61, .if_icmp .eq 15, 0, 76)],
  [(64, .aload_n 0, 0, 0), (65, .getfield 7, 0, 1000), (68, .bipush 56, 56, 0), (70, .iaload, 0, 0), (71, .bipush 12, 12, 0), (73, .if_icmp .ne 7, 0, 80), (76, .iconst 0, 0, 0), (77, .goto 14, 0, 91)],
  [(80, .bipush 100, 100, 0), (82, .bipush 8, 8, 0), (84, .iload 6, 0, 0), (86, .imul, 0, 0), (87, .iadd, 0, 0), (88, .iload 7, 0, 0), (90, .iadd, 0, 0), (91, .ireturn, 0, 0), (92, .iload_n 3, 0, 0), (93, .bipush 7, 7, 0), (95, .if_icmp .ne 17, 0, 112)],
  [(98, .sipush 300, 300, 0), (101, .lload 4, 0, 0), (103, .ldc2_w 269, 0, 0), (106, .lrem, 0, 0), (107, .l2i, 0, 0), (108, .iadd, 0, 0), (109, .goto 33, 0, 142)],
  [(112, .aload_n 0, 0, 0), (113, .getfield 7, 0, 1000), (116, .bipush 56, 56, 0), (118, .iaload, 0, 0), (119, .ifCond .ne 7, 0, 126), (122, .iconst 0, 0, 0), (123, .goto 19, 0, 142), (126, .sipush 200, 200, 0)],
  [(129, .lload 4, 0, 0), (131, .aload_n 0, 0, 0), (132, .getfield 7, 0, 1000), (135, .bipush 56, 56, 0), (137, .iaload, 0, 0), (138, .i2l, 0, 0), (139, .lrem, 0, 0), (140, .l2i, 0, 0), (141, .iadd, 0, 0), (142, .ireturn, 0, 0)]]
def qp_k226 : List (List (Nat × Instr × Int32 × Nat)) := [
  [(0, .iconst 0, 0, 0), (1, .istore_n 1, 0, 0), (2, .aload_n 0, 0, 0), (3, .invokevirtual 178, 0, 1730), (6, .iconst 0, 0, 0), (7, .istore_n 2, 0, 0), (8, .iload_n 2, 0, 0), (9, .aload_n 0, 0, 0), (10, .getfield 7, 0, 1000), (13, .iconst 0, 0, 0), (14, .iaload, 0, 0), (15, .if_icmp .ge 18, 0, 33)],
  [(18, .iload_n 1, 0, 0), (19, .aload_n 0, 0, 0), (20, .getfield 48, 0, 1016), (23, .iload_n 2, 0, 0), (24, .iaload, 0, 0), (25, .iadd, 0, 0), (26, .istore_n 1, 0, 0), (27, .iinc 2 1, 1, 0), (30, .goto (-22), 0, 8)],
  [(33, .iload_n 1, 0, 0), (34, .ireturn, 0, 0)]]
def qp_k227 : List (List (Nat × Instr × Int32 × Nat)) := [
  [(0, .aload_n 0, 0, 0), (1, .getfield 82, 0, 1009), (4, .ireturn, 0, 0)]]
def qp_k228 : List (List (Nat × Instr × Int32 × Nat)) := [
  [(0, .aload_n 0, 0, 0), (1, .getfield 240, 0, 1010), (4, .lreturn, 0, 0)]]
def qp_k229 : List (List (Nat × Instr × Int32 × Nat)) := [
  [(0, .aload_n 0, 0, 0), (1, .getfield 35, 0, 1011), (4, .lreturn, 0, 0)]]
def qp_k230 : List (List (Nat × Instr × Int32 × Nat)) := [
  [(0, .iload_n 1, 0, 0), (1, .i2l, 0, 0), (2, .lconst 0, 0, 0), (3, .ldc2_w 294, 0, 0), (6, .invokestatic 87, 0, 1491), (9, .ifCond .eq 11, 0, 20), (12, .aload_n 0, 0, 0), (13, .iload_n 1, 0, 0), (14, .invokevirtual 296, 0, 2310)],
  [(17, .goto 4, 0, 21), (20, .iconst (-1), (-1), 0), (21, .ireturn, 0, 0)]]
def qp_k231 : List (List (Nat × Instr × Int32 × Nat)) := [
  [(0, .iload_n 1, 0, 0), (1, .tableswitch 138 0 10 #[59, 66, 74, 82, 90, 96, 101, 107, 113, 119, 129], 0, 59)],
  [],
  [],
  [(60, .aload_n 0, 0, 0), (61, .getfield 7, 0, 1000)],
  [(64, .iconst 0, 0, 0), (65, .iaload, 0, 0), (66, .ireturn, 0, 0), (67, .aload_n 0, 0, 0), (68, .getfield 7, 0, 1000), (71, .bipush 55, 55, 0), (73, .iaload, 0, 0), (74, .ireturn, 0, 0), (75, .aload_n 0, 0, 0), (76, .getfield 7, 0, 1000), (79, .bipush 56, 56, 0)],
  [(81, .iaload, 0, 0), (82, .ireturn, 0, 0), (83, .aload_n 0, 0, 0), (84, .getfield 7, 0, 1000), (87, .bipush 14, 14, 0), (89, .iaload, 0, 0), (90, .ireturn, 0, 0), (91, .aload_n 0, 0, 0), (92, .iconst 1, 1, 0), (93, .invokevirtual 284, 0, 2320)],
  [(96, .ireturn, 0, 0), (97, .aload_n 0, 0, 0), (98, .invokevirtual 281, 0, 2260), (101, .ireturn, 0, 0), (102, .aload_n 0, 0, 0), (103, .iconst 0, 0, 0), (104, .invokevirtual 284, 0, 2320), (107, .ireturn, 0, 0), (108, .aload_n 0, 0, 0), (109, .iconst 1, 1, 0), (110, .invokevirtual 288, 0, 2330)],
  [(113, .ireturn, 0, 0), (114, .aload_n 0, 0, 0), (115, .iconst 2, 2, 0), (116, .invokevirtual 288, 0, 2330), (119, .ireturn, 0, 0), (120, .aload_n 0, 0, 0), (121, .getfield 23, 0, 1004), (124, .bipush 6, 6, 0), (126, .invokestatic 291, 0, 2341)],
  [(129, .ireturn, 0, 0), (130, .aload_n 0, 0, 0), (131, .getfield 29, 0, 1006), (134, .iconst 4, 4, 0), (135, .invokestatic 291, 0, 2341), (138, .ireturn, 0, 0), (139, .aload_n 0, 0, 0), (140, .getfield 16, 0, 1002), (143, .iconst 0, 0, 0)],
  [(144, .baload, 0, 0), (145, .ifCond .eq 7, 0, 152), (148, .iconst 1, 1, 0), (149, .goto 4, 0, 153), (152, .iconst 0, 0, 0), (153, .aload_n 0, 0, 0), (154, .getfield 16, 0, 1002), (157, .iconst 1, 1, 0), (158, .baload, 0, 0), (159, .ifCond .eq 7, 0, 166)],
  [(162, .iconst 1, 1, 0), (163, .goto 4, 0, 167), (166, .iconst 0, 0, 0), (167, .iadd, 0, 0), (168, .aload_n 0, 0, 0), (169, .getfield 16, 0, 1002), (172, .iconst 2, 2, 0), (173, .baload, 0, 0), (174, .ifCond .eq 7, 0, 181)],
  [(177, .iconst 1, 1, 0), (178, .goto 4, 0, 182), (181, .iconst 0, 0, 0), (182, .iadd, 0, 0), (183, .ireturn, 0, 0)]]
def qp_k232 : List (List (Nat × Instr × Int32 × Nat)) := [
  [(0, .iconst 0, 0, 0), (1, .istore_n 2, 0, 0), (2, .aload_n 0, 0, 0), (3, .invokevirtual 178, 0, 1730), (6, .iconst 0, 0, 0), (7, .istore_n 3, 0, 0), (8, .iload_n 3, 0, 0), (9, .aload_n 0, 0, 0), (10, .getfield 7, 0, 1000), (13, .iconst 0, 0, 0), (14, .iaload, 0, 0), (15, .if_icmp .ge 85, 0, 100)],
  [(18, .iload_n 1, 0, 0), (19, .ifCond .eq 29, 0, 48), (22, .aload_n 0, 0, 0), (23, .getfield 51, 0, 1017), (26, .iload_n 3, 0, 0), (27, .iaload, 0, 0), (28, .aload_n 0, 0, 0), (29, .getfield 7, 0, 1000)],
  [(32, .bipush 8, 8, 0), (34, .iload_n 3, 0, 0), (35, .iadd, 0, 0), (36, .iaload, 0, 0), (37, .if_icmp .le 7, 0, 44), (40, .iconst 1, 1, 0), (41, .goto 36, 0, 77), (44, .iconst 0, 0, 0), (45, .goto 32, 0, 77)],
  [(48, .aload_n 0, 0, 0), (49, .getfield 57, 0, 1019), (52, .iload_n 3, 0, 0), (53, .iaload, 0, 0), (54, .ifCond .le 22, 0, 76), (57, .aload_n 0, 0, 0), (58, .getfield 48, 0, 1016), (61, .iload_n 3, 0, 0), (62, .iaload, 0, 0), (63, .aload_n 0, 0, 0)],
  [(64, .getfield 57, 0, 1019), (67, .iload_n 3, 0, 0), (68, .iaload, 0, 0), (69, .if_icmp .ne 7, 0, 76), (72, .iconst 1, 1, 0), (73, .goto 4, 0, 77), (76, .iconst 0, 0, 0), (77, .istore 4, 0, 0), (79, .iload_n 2, 0, 0)],
  [(80, .iload 4, 0, 0), (82, .ifCond .eq 9, 0, 91), (85, .iconst 1, 1, 0), (86, .iload_n 3, 0, 0), (87, .ishl, 0, 0), (88, .goto 4, 0, 92), (91, .iconst 0, 0, 0), (92, .ior, 0, 0), (93, .istore_n 2, 0, 0), (94, .iinc 3 1, 1, 0)],
  [(97, .goto (-89), 0, 8), (100, .iload_n 2, 0, 0), (101, .ireturn, 0, 0)]]
def qp_k233 : List (List (Nat × Instr × Int32 × Nat)) := [
  [(0, .iconst 0, 0, 0), (1, .istore_n 2, 0, 0), (2, .iconst 0, 0, 0), (3, .istore_n 3, 0, 0), (4, .iload_n 3, 0, 0), (5, .aload_n 0, 0, 0), (6, .getfield 7, 0, 1000), (9, .iconst 0, 0, 0), (10, .iaload, 0, 0), (11, .if_icmp .ge 32, 0, 43), (14, .iload_n 2, 0, 0), (15, .aload_n 0, 0, 0)],
  [(16, .getfield 7, 0, 1000), (19, .iconst 2, 2, 0), (20, .iload_n 3, 0, 0), (21, .iadd, 0, 0), (22, .iaload, 0, 0), (23, .iload_n 1, 0, 0), (24, .invokestatic 192, 0, 1811), (27, .ifCond .eq 7, 0, 34), (30, .iconst 1, 1, 0), (31, .goto 4, 0, 35)],
  [(34, .iconst 0, 0, 0), (35, .iadd, 0, 0), (36, .istore_n 2, 0, 0), (37, .iinc 3 1, 1, 0), (40, .goto (-36), 0, 4), (43, .iload_n 2, 0, 0), (44, .ireturn, 0, 0)]]
def qp_k234 : List (List (Nat × Instr × Int32 × Nat)) := [
  [(0, .iconst 0, 0, 0), (1, .istore_n 2, 0, 0), (2, .iconst 0, 0, 0), (3, .istore_n 3, 0, 0), (4, .iload_n 3, 0, 0), (5, .iload_n 1, 0, 0), (6, .if_icmp .ge 23, 0, 29), (9, .iload_n 2, 0, 0), (10, .aload_n 0, 0, 0), (11, .iload_n 3, 0, 0), (12, .iaload, 0, 0), (13, .ifCond .ge 7, 0, 20)],
  [(16, .iconst 0, 0, 0), (17, .goto 4, 0, 21), (20, .iconst 1, 1, 0), (21, .iadd, 0, 0), (22, .istore_n 2, 0, 0), (23, .iinc 3 1, 1, 0), (26, .goto (-22), 0, 4), (29, .iload_n 2, 0, 0), (30, .ireturn, 0, 0)]]
def qp_k235 : List (List (Nat × Instr × Int32 × Nat)) := [
  [(0, .aload_n 0, 0, 0), (1, .getfield 78, 0, 1008), (4, .ireturn, 0, 0)]]
def qp_k236 : List (List (Nat × Instr × Int32 × Nat)) := [
  [(0, .iload_n 1, 0, 0), (1, .i2l, 0, 0), (2, .lconst 1, 0, 0), (3, .ldc2_w 85, 0, 0), (6, .invokestatic 87, 0, 1491), (9, .ifCond .eq 12, 0, 21), (12, .aload_n 0, 0, 0), (13, .getfield 32, 0, 1007)],
  [(16, .iload_n 1, 0, 0), (17, .iaload, 0, 0), (18, .goto 4, 0, 22), (21, .iconst (-1), (-1), 0), (22, .ireturn, 0, 0)]]
def qp_k237 : List (List (Nat × Instr × Int32 × Nat)) := [
  [(0, .ldc2_w 299, 0, 0), (3, .lstore_n 1, 0, 0), (4, .iconst 0, 0, 0), (5, .istore_n 3, 0, 0), (6, .iload_n 3, 0, 0), (7, .bipush 12, 12, 0), (9, .if_icmp .ge 22, 0, 31), (12, .ldc2_w 301, 0, 0), (15, .lload_n 1, 0, 0)],
  [(16, .lmul, 0, 0), (17, .aload_n 0, 0, 0), (18, .iload_n 3, 0, 0), (19, .invokevirtual 296, 0, 2310), (22, .i2l, 0, 0), (23, .ladd, 0, 0), (24, .lstore_n 1, 0, 0), (25, .iinc 3 1, 1, 0), (28, .goto (-22), 0, 6), (31, .iconst 0, 0, 0)],
  [(32, .istore_n 3, 0, 0), (33, .iload_n 3, 0, 0), (34, .aload_n 0, 0, 0), (35, .getfield 7, 0, 1000), (38, .iconst 0, 0, 0), (39, .iaload, 0, 0), (40, .if_icmp .ge 40, 0, 80), (43, .iconst 0, 0, 0), (44, .istore 4, 0, 0), (46, .iload 4, 0, 0)],
  [(48, .bipush 7, 7, 0), (50, .if_icmp .ge 24, 0, 74), (53, .ldc2_w 301, 0, 0), (56, .lload_n 1, 0, 0), (57, .lmul, 0, 0), (58, .aload_n 0, 0, 0), (59, .iload_n 3, 0, 0), (60, .iload 4, 0, 0), (62, .invokevirtual 189, 0, 1720)],
  [(65, .i2l, 0, 0), (66, .ladd, 0, 0), (67, .lstore_n 1, 0, 0), (68, .iinc 4 1, 1, 0), (71, .goto (-25), 0, 46), (74, .iinc 3 1, 1, 0), (77, .goto (-44), 0, 33)],
  [(80, .iconst 0, 0, 0), (81, .istore_n 3, 0, 0), (82, .iload_n 3, 0, 0), (83, .aload_n 0, 0, 0), (84, .getfield 7, 0, 1000), (87, .bipush 56, 56, 0), (89, .iaload, 0, 0), (90, .if_icmp .ge 47, 0, 137), (93, .ldc2_w 301, 0, 0)],
  [(96, .ldc2_w 301, 0, 0), (99, .lload_n 1, 0, 0), (100, .lmul, 0, 0), (101, .aload_n 0, 0, 0), (102, .getfield 7, 0, 1000), (105, .bipush 57, 57, 0), (107, .iload_n 3, 0, 0), (108, .iadd, 0, 0), (109, .iaload, 0, 0), (110, .bipush 8, 8, 0)],
  [(112, .idiv, 0, 0), (113, .i2l, 0, 0), (114, .ladd, 0, 0), (115, .lmul, 0, 0), (116, .aload_n 0, 0, 0), (117, .getfield 7, 0, 1000), (120, .bipush 57, 57, 0), (122, .iload_n 3, 0, 0), (123, .iadd, 0, 0), (124, .iaload, 0, 0), (125, .bipush 8, 8, 0), (127, .irem, 0, 0)],
  [(128, .i2l, 0, 0), (129, .ladd, 0, 0), (130, .lstore_n 1, 0, 0), (131, .iinc 3 1, 1, 0), (134, .goto (-52), 0, 82), (137, .iconst 0, 0, 0), (138, .istore_n 3, 0, 0), (139, .iload_n 3, 0, 0), (140, .iconst 3, 3, 0), (141, .if_icmp .ge 42, 0, 183)],
  [(144, .ldc2_w 301, 0, 0), (147, .lload_n 1, 0, 0), (148, .lmul, 0, 0), (149, .aload_n 0, 0, 0), (150, .getfield 16, 0, 1002), (153, .iload_n 3, 0, 0), (154, .baload, 0, 0), (155, .ifCond .eq 18, 0, 173), (158, .aload_n 0, 0, 0), (159, .getfield 13, 0, 1001)],
  [(162, .bipush 75, 75, 0), (164, .iload_n 3, 0, 0), (165, .imul, 0, 0), (166, .bipush 14, 14, 0), (168, .iadd, 0, 0), (169, .iaload, 0, 0), (170, .goto 4, 0, 174), (173, .iconst (-1), (-1), 0), (174, .i2l, 0, 0), (175, .ladd, 0, 0)],
  [(176, .lstore_n 1, 0, 0), (177, .iinc 3 1, 1, 0), (180, .goto (-41), 0, 139), (183, .iconst 0, 0, 0), (184, .istore_n 3, 0, 0), (185, .iload_n 3, 0, 0), (186, .bipush 6, 6, 0), (188, .if_icmp .ge 63, 0, 251), (191, .ldc2_w 301, 0, 0)],
  [(194, .lload_n 1, 0, 0), (195, .lmul, 0, 0), (196, .aload_n 0, 0, 0), (197, .getfield 23, 0, 1004), (200, .iload_n 3, 0, 0), (201, .iaload, 0, 0), (202, .i2l, 0, 0), (203, .ladd, 0, 0), (204, .lstore_n 1, 0, 0), (205, .iconst 0, 0, 0), (206, .istore 4, 0, 0)],
  [(208, .iload 4, 0, 0), (210, .aload_n 0, 0, 0), (211, .getfield 23, 0, 1004), (214, .iload_n 3, 0, 0), (215, .iaload, 0, 0), (216, .if_icmp .ge 29, 0, 245), (219, .ldc2_w 301, 0, 0), (222, .lload_n 1, 0, 0), (223, .lmul, 0, 0)],
  [(224, .aload_n 0, 0, 0), (225, .getfield 20, 0, 1003), (228, .bipush 40, 40, 0), (230, .iload_n 3, 0, 0), (231, .imul, 0, 0), (232, .iload 4, 0, 0), (234, .iadd, 0, 0), (235, .iaload, 0, 0), (236, .i2l, 0, 0), (237, .ladd, 0, 0), (238, .lstore_n 1, 0, 0), (239, .iinc 4 1, 1, 0)],
  [(242, .goto (-34), 0, 208), (245, .iinc 3 1, 1, 0), (248, .goto (-63), 0, 185), (251, .iconst 0, 0, 0), (252, .istore_n 3, 0, 0), (253, .iload_n 3, 0, 0), (254, .iconst 4, 4, 0), (255, .if_icmp .ge 63, 0, 318)],
  [(258, .ldc2_w 301, 0, 0), (261, .lload_n 1, 0, 0), (262, .lmul, 0, 0), (263, .aload_n 0, 0, 0), (264, .getfield 29, 0, 1006), (267, .iload_n 3, 0, 0), (268, .iaload, 0, 0), (269, .i2l, 0, 0), (270, .ladd, 0, 0), (271, .lstore_n 1, 0, 0)],
  [(272, .iconst 0, 0, 0), (273, .istore 4, 0, 0), (275, .iload 4, 0, 0), (277, .aload_n 0, 0, 0), (278, .getfield 29, 0, 1006), (281, .iload_n 3, 0, 0), (282, .iaload, 0, 0), (283, .if_icmp .ge 29, 0, 312), (286, .ldc2_w 301, 0, 0)],
  [(289, .lload_n 1, 0, 0), (290, .lmul, 0, 0), (291, .aload_n 0, 0, 0), (292, .getfield 26, 0, 1005), (295, .bipush 60, 60, 0), (297, .iload_n 3, 0, 0), (298, .imul, 0, 0), (299, .iload 4, 0, 0), (301, .iadd, 0, 0), (302, .iaload, 0, 0), (303, .i2l, 0, 0)],
  [(304, .ladd, 0, 0), (305, .lstore_n 1, 0, 0), (306, .iinc 4 1, 1, 0), (309, .goto (-34), 0, 275), (312, .iinc 3 1, 1, 0), (315, .goto (-62), 0, 253), (318, .lload_n 1, 0, 0), (319, .lreturn, 0, 0)]]
def qp_kL0 : List (List (Nat × Instr × Int32 × Nat)) := [
  [(0, .new 7, 0, 0), (3, .dup, 0, 0), (4, .invokespecial 9, 0, 2), (7, .astore_n 1, 0, 0), (8, .new 10, 0, 10), (11, .dup, 0, 0), (12, .invokespecial 12, 0, 1462), (15, .astore_n 2, 0, 0)],
  [(16, .iconst 0, 0, 0), (17, .istore_n 3, 0, 0), (18, .iload_n 3, 0, 0), (19, .aload_n 0, 0, 0), (20, .arraylength, 0, 0), (21, .bipush 6, 6, 0), (23, .isub, 0, 0), (24, .if_icmp .gt 1340, 0, 1364), (27, .aload_n 0, 0, 0), (28, .iload_n 3, 0, 0), (29, .iaload, 0, 0), (30, .bipush 63, 63, 0)],
  [(32, .iand, 0, 0), (33, .tableswitch 1325 0 40 #[179, 212, 255, 288, 311, 374, 397, 430, 473, 496, 519, 552, 585, 618, 641, 664, 687, 710, 733, 756, 789, 822, 855, 878, 901, 954, 977, 1010, 1033, 1056, 1079, 1122, 1155, 1178, 1211, 1224, 1238, 1252, 1275, 1288, 1311], 0, 179)],
  [],
  [],
  [],
  [],
  []]
def qp_kL1 : List (List (Nat × Instr × Int32 × Nat)) := [
  [],
  [],
  [],
  [],
  [],
  [(212, .aload_n 1, 0, 0), (213, .aload_n 0, 0, 0), (214, .iload_n 3, 0, 0), (215, .iconst 1, 1, 0), (216, .iadd, 0, 0), (217, .iaload, 0, 0), (218, .aload_n 0, 0, 0), (219, .iload_n 3, 0, 0), (220, .iconst 2, 2, 0), (221, .iadd, 0, 0), (222, .iaload, 0, 0), (223, .invokevirtual 13, 0, 110)],
  [(226, .aload_n 2, 0, 0), (227, .aload_n 0, 0, 0), (228, .iload_n 3, 0, 0), (229, .iconst 1, 1, 0), (230, .iadd, 0, 0), (231, .iaload, 0, 0), (232, .aload_n 0, 0, 0), (233, .iload_n 3, 0, 0), (234, .iconst 2, 2, 0), (235, .iadd, 0, 0), (236, .iaload, 0, 0), (237, .invokevirtual 17, 0, 1470)],
  [(240, .if_icmp .eq 1118, 0, 1358), (243, .iconst 0, 0, 0), (244, .ireturn, 0, 0), (245, .aload_n 1, 0, 0), (246, .aload_n 0, 0, 0), (247, .iload_n 3, 0, 0), (248, .iconst 1, 1, 0), (249, .iadd, 0, 0), (250, .iaload, 0, 0), (251, .aload_n 0, 0, 0), (252, .iload_n 3, 0, 0), (253, .iconst 2, 2, 0), (254, .iadd, 0, 0), (255, .iaload, 0, 0)]]
def qp_kL2 : List (List (Nat × Instr × Int32 × Nat)) := [
  [(256, .aload_n 0, 0, 0), (257, .iload_n 3, 0, 0), (258, .iconst 3, 3, 0), (259, .iadd, 0, 0), (260, .iaload, 0, 0), (261, .invokevirtual 18, 0, 160), (264, .aload_n 2, 0, 0), (265, .aload_n 0, 0, 0), (266, .iload_n 3, 0, 0), (267, .iconst 1, 1, 0), (268, .iadd, 0, 0), (269, .iaload, 0, 0), (270, .aload_n 0, 0, 0), (271, .iload_n 3, 0, 0)],
  [(272, .iconst 2, 2, 0), (273, .iadd, 0, 0), (274, .iaload, 0, 0), (275, .aload_n 0, 0, 0), (276, .iload_n 3, 0, 0), (277, .iconst 3, 3, 0), (278, .iadd, 0, 0), (279, .iaload, 0, 0), (280, .invokevirtual 22, 0, 1510), (283, .if_icmp .eq 1075, 0, 1358), (286, .iconst 0, 0, 0), (287, .ireturn, 0, 0)],
  [(288, .aload_n 1, 0, 0), (289, .aload_n 0, 0, 0), (290, .iload_n 3, 0, 0), (291, .iconst 1, 1, 0), (292, .iadd, 0, 0), (293, .iaload, 0, 0), (294, .aload_n 0, 0, 0), (295, .iload_n 3, 0, 0), (296, .iconst 2, 2, 0), (297, .iadd, 0, 0), (298, .iaload, 0, 0), (299, .invokevirtual 23, 0, 250), (302, .aload_n 2, 0, 0), (303, .aload_n 0, 0, 0)],
  [(304, .iload_n 3, 0, 0), (305, .iconst 1, 1, 0), (306, .iadd, 0, 0), (307, .iaload, 0, 0), (308, .aload_n 0, 0, 0), (309, .iload_n 3, 0, 0), (310, .iconst 2, 2, 0), (311, .iadd, 0, 0), (312, .iaload, 0, 0), (313, .invokevirtual 26, 0, 1520), (316, .if_icmp .eq 1042, 0, 1358), (319, .iconst 0, 0, 0)],
  [(320, .ireturn, 0, 0), (321, .aload_n 1, 0, 0), (322, .aload_n 0, 0, 0), (323, .iload_n 3, 0, 0), (324, .iconst 1, 1, 0), (325, .iadd, 0, 0), (326, .iaload, 0, 0), (327, .invokevirtual 27, 0, 260), (330, .aload_n 2, 0, 0), (331, .aload_n 0, 0, 0), (332, .iload_n 3, 0, 0), (333, .iconst 1, 1, 0), (334, .iadd, 0, 0), (335, .iaload, 0, 0)],
  [(336, .invokevirtual 31, 0, 1540), (339, .if_icmp .eq 1019, 0, 1358), (342, .iconst 0, 0, 0), (343, .ireturn, 0, 0), (344, .aload_n 1, 0, 0), (345, .aload_n 0, 0, 0), (346, .iload_n 3, 0, 0), (347, .iconst 1, 1, 0), (348, .iadd, 0, 0), (349, .iaload, 0, 0), (350, .aload_n 0, 0, 0), (351, .iload_n 3, 0, 0)],
  [(352, .iconst 2, 2, 0), (353, .iadd, 0, 0), (354, .iaload, 0, 0), (355, .aload_n 0, 0, 0), (356, .iload_n 3, 0, 0), (357, .iconst 3, 3, 0), (358, .iadd, 0, 0), (359, .iaload, 0, 0), (360, .aload_n 0, 0, 0), (361, .iload_n 3, 0, 0), (362, .iconst 4, 4, 0), (363, .iadd, 0, 0), (364, .iaload, 0, 0), (365, .aload_n 0, 0, 0), (366, .iload_n 3, 0, 0), (367, .iconst 5, 5, 0)],
  [(368, .iadd, 0, 0), (369, .iaload, 0, 0), (370, .invokevirtual 32, 0, 280), (373, .aload_n 2, 0, 0), (374, .aload_n 0, 0, 0), (375, .iload_n 3, 0, 0), (376, .iconst 1, 1, 0), (377, .iadd, 0, 0), (378, .iaload, 0, 0), (379, .aload_n 0, 0, 0), (380, .iload_n 3, 0, 0), (381, .iconst 2, 2, 0), (382, .iadd, 0, 0), (383, .iaload, 0, 0)]]
def qp_kL3 : List (List (Nat × Instr × Int32 × Nat)) := [
  [(384, .aload_n 0, 0, 0), (385, .iload_n 3, 0, 0), (386, .iconst 3, 3, 0), (387, .iadd, 0, 0), (388, .iaload, 0, 0), (389, .aload_n 0, 0, 0), (390, .iload_n 3, 0, 0), (391, .iconst 4, 4, 0), (392, .iadd, 0, 0), (393, .iaload, 0, 0), (394, .aload_n 0, 0, 0), (395, .iload_n 3, 0, 0), (396, .iconst 5, 5, 0), (397, .iadd, 0, 0), (398, .iaload, 0, 0), (399, .invokevirtual 36, 0, 1550)],
  [(402, .if_icmp .eq 956, 0, 1358), (405, .iconst 0, 0, 0), (406, .ireturn, 0, 0), (407, .aload_n 1, 0, 0), (408, .aload_n 0, 0, 0), (409, .iload_n 3, 0, 0), (410, .iconst 1, 1, 0), (411, .iadd, 0, 0), (412, .iaload, 0, 0), (413, .invokevirtual 37, 0, 310)],
  [(416, .aload_n 2, 0, 0), (417, .aload_n 0, 0, 0), (418, .iload_n 3, 0, 0), (419, .iconst 1, 1, 0), (420, .iadd, 0, 0), (421, .iaload, 0, 0), (422, .invokevirtual 40, 0, 1560), (425, .if_icmp .eq 933, 0, 1358), (428, .iconst 0, 0, 0), (429, .ireturn, 0, 0), (430, .aload_n 1, 0, 0), (431, .aload_n 0, 0, 0)],
  [(432, .iload_n 3, 0, 0), (433, .iconst 1, 1, 0), (434, .iadd, 0, 0), (435, .iaload, 0, 0), (436, .aload_n 0, 0, 0), (437, .iload_n 3, 0, 0), (438, .iconst 2, 2, 0), (439, .iadd, 0, 0), (440, .iaload, 0, 0), (441, .invokevirtual 41, 0, 330), (444, .aload_n 2, 0, 0), (445, .aload_n 0, 0, 0), (446, .iload_n 3, 0, 0), (447, .iconst 1, 1, 0)],
  [(448, .iadd, 0, 0), (449, .iaload, 0, 0), (450, .aload_n 0, 0, 0), (451, .iload_n 3, 0, 0), (452, .iconst 2, 2, 0), (453, .iadd, 0, 0), (454, .iaload, 0, 0), (455, .invokevirtual 44, 0, 1570), (458, .if_icmp .eq 900, 0, 1358), (461, .iconst 0, 0, 0), (462, .ireturn, 0, 0), (463, .aload_n 1, 0, 0)],
  [(464, .aload_n 0, 0, 0), (465, .iload_n 3, 0, 0), (466, .iconst 1, 1, 0), (467, .iadd, 0, 0), (468, .iaload, 0, 0), (469, .aload_n 0, 0, 0), (470, .iload_n 3, 0, 0), (471, .iconst 2, 2, 0), (472, .iadd, 0, 0), (473, .iaload, 0, 0), (474, .aload_n 0, 0, 0), (475, .iload_n 3, 0, 0), (476, .iconst 3, 3, 0), (477, .iadd, 0, 0), (478, .iaload, 0, 0), (479, .invokevirtual 45, 0, 340)],
  [(482, .aload_n 2, 0, 0), (483, .aload_n 0, 0, 0), (484, .iload_n 3, 0, 0), (485, .iconst 1, 1, 0), (486, .iadd, 0, 0), (487, .iaload, 0, 0), (488, .aload_n 0, 0, 0), (489, .iload_n 3, 0, 0), (490, .iconst 2, 2, 0), (491, .iadd, 0, 0), (492, .iaload, 0, 0), (493, .aload_n 0, 0, 0), (494, .iload_n 3, 0, 0), (495, .iconst 3, 3, 0)],
  [(496, .iadd, 0, 0), (497, .iaload, 0, 0), (498, .invokevirtual 48, 0, 1590), (501, .if_icmp .eq 857, 0, 1358), (504, .iconst 0, 0, 0), (505, .ireturn, 0, 0), (506, .aload_n 1, 0, 0), (507, .aload_n 0, 0, 0), (508, .iload_n 3, 0, 0), (509, .iconst 1, 1, 0), (510, .iadd, 0, 0), (511, .iaload, 0, 0)]]
def qp_kL4 : List (List (Nat × Instr × Int32 × Nat)) := [
  [(512, .invokevirtual 49, 0, 350), (515, .aload_n 2, 0, 0), (516, .aload_n 0, 0, 0), (517, .iload_n 3, 0, 0), (518, .iconst 1, 1, 0), (519, .iadd, 0, 0), (520, .iaload, 0, 0), (521, .invokevirtual 52, 0, 1600), (524, .if_icmp .eq 834, 0, 1358), (527, .iconst 0, 0, 0)],
  [(528, .ireturn, 0, 0), (529, .aload_n 1, 0, 0), (530, .aload_n 0, 0, 0), (531, .iload_n 3, 0, 0), (532, .iconst 1, 1, 0), (533, .iadd, 0, 0), (534, .iaload, 0, 0), (535, .invokevirtual 53, 0, 440), (538, .aload_n 2, 0, 0), (539, .aload_n 0, 0, 0), (540, .iload_n 3, 0, 0), (541, .iconst 1, 1, 0), (542, .iadd, 0, 0), (543, .iaload, 0, 0)],
  [(544, .invokevirtual 56, 0, 1680), (547, .if_icmp .eq 811, 0, 1358), (550, .iconst 0, 0, 0), (551, .ireturn, 0, 0), (552, .aload_n 1, 0, 0), (553, .aload_n 0, 0, 0), (554, .iload_n 3, 0, 0), (555, .iconst 1, 1, 0), (556, .iadd, 0, 0), (557, .iaload, 0, 0), (558, .aload_n 0, 0, 0), (559, .iload_n 3, 0, 0)],
  [(560, .iconst 2, 2, 0), (561, .iadd, 0, 0), (562, .iaload, 0, 0), (563, .invokevirtual 57, 0, 510), (566, .aload_n 2, 0, 0), (567, .aload_n 0, 0, 0), (568, .iload_n 3, 0, 0), (569, .iconst 1, 1, 0), (570, .iadd, 0, 0), (571, .iaload, 0, 0), (572, .aload_n 0, 0, 0), (573, .iload_n 3, 0, 0), (574, .iconst 2, 2, 0), (575, .iadd, 0, 0)],
  [(576, .iaload, 0, 0), (577, .invokevirtual 60, 0, 1700), (580, .if_icmp .eq 778, 0, 1358), (583, .iconst 0, 0, 0), (584, .ireturn, 0, 0), (585, .aload_n 1, 0, 0), (586, .aload_n 0, 0, 0), (587, .iload_n 3, 0, 0), (588, .iconst 1, 1, 0), (589, .iadd, 0, 0), (590, .iaload, 0, 0), (591, .aload_n 0, 0, 0)],
  [(592, .iload_n 3, 0, 0), (593, .iconst 2, 2, 0), (594, .iadd, 0, 0), (595, .iaload, 0, 0), (596, .invokevirtual 61, 0, 690), (599, .aload_n 2, 0, 0), (600, .aload_n 0, 0, 0), (601, .iload_n 3, 0, 0), (602, .iconst 1, 1, 0), (603, .iadd, 0, 0), (604, .iaload, 0, 0), (605, .aload_n 0, 0, 0), (606, .iload_n 3, 0, 0), (607, .iconst 2, 2, 0)],
  [(608, .iadd, 0, 0), (609, .iaload, 0, 0), (610, .invokevirtual 64, 0, 1800), (613, .if_icmp .eq 745, 0, 1358), (616, .iconst 0, 0, 0), (617, .ireturn, 0, 0), (618, .aload_n 1, 0, 0), (619, .aload_n 0, 0, 0), (620, .iload_n 3, 0, 0), (621, .iconst 1, 1, 0), (622, .iadd, 0, 0), (623, .iaload, 0, 0)],
  [(624, .aload_n 0, 0, 0), (625, .iload_n 3, 0, 0), (626, .iconst 2, 2, 0), (627, .iadd, 0, 0), (628, .iaload, 0, 0), (629, .invokevirtual 65, 0, 720), (632, .aload_n 2, 0, 0), (633, .aload_n 0, 0, 0), (634, .iload_n 3, 0, 0), (635, .iconst 1, 1, 0), (636, .iadd, 0, 0), (637, .iaload, 0, 0), (638, .aload_n 0, 0, 0), (639, .iload_n 3, 0, 0)]]
def qp_kL5 : List (List (Nat × Instr × Int32 × Nat)) := [
  [(640, .iconst 2, 2, 0), (641, .iadd, 0, 0), (642, .iaload, 0, 0), (643, .invokevirtual 68, 0, 1830), (646, .if_icmp .eq 712, 0, 1358), (649, .iconst 0, 0, 0), (650, .ireturn, 0, 0), (651, .aload_n 1, 0, 0), (652, .aload_n 0, 0, 0), (653, .iload_n 3, 0, 0), (654, .iconst 1, 1, 0), (655, .iadd, 0, 0)],
  [(656, .iaload, 0, 0), (657, .invokevirtual 69, 0, 800), (660, .aload_n 2, 0, 0), (661, .aload_n 0, 0, 0), (662, .iload_n 3, 0, 0), (663, .iconst 1, 1, 0), (664, .iadd, 0, 0), (665, .iaload, 0, 0), (666, .invokevirtual 72, 0, 1890), (669, .if_icmp .eq 689, 0, 1358)],
  [(672, .iconst 0, 0, 0), (673, .ireturn, 0, 0), (674, .aload_n 1, 0, 0), (675, .aload_n 0, 0, 0), (676, .iload_n 3, 0, 0), (677, .iconst 1, 1, 0), (678, .iadd, 0, 0), (679, .iaload, 0, 0), (680, .invokevirtual 73, 0, 820), (683, .aload_n 2, 0, 0), (684, .aload_n 0, 0, 0), (685, .iload_n 3, 0, 0), (686, .iconst 1, 1, 0), (687, .iadd, 0, 0)],
  [(688, .iaload, 0, 0), (689, .invokevirtual 76, 0, 1910), (692, .if_icmp .eq 666, 0, 1358), (695, .iconst 0, 0, 0), (696, .ireturn, 0, 0), (697, .aload_n 1, 0, 0), (698, .aload_n 0, 0, 0), (699, .iload_n 3, 0, 0), (700, .iconst 1, 1, 0), (701, .iadd, 0, 0), (702, .iaload, 0, 0), (703, .invokevirtual 77, 0, 830)],
  [(706, .aload_n 2, 0, 0), (707, .aload_n 0, 0, 0), (708, .iload_n 3, 0, 0), (709, .iconst 1, 1, 0), (710, .iadd, 0, 0), (711, .iaload, 0, 0), (712, .invokevirtual 80, 0, 1920), (715, .if_icmp .eq 643, 0, 1358), (718, .iconst 0, 0, 0), (719, .ireturn, 0, 0)],
  [(720, .aload_n 1, 0, 0), (721, .aload_n 0, 0, 0), (722, .iload_n 3, 0, 0), (723, .iconst 1, 1, 0), (724, .iadd, 0, 0), (725, .iaload, 0, 0), (726, .invokevirtual 81, 0, 850), (729, .aload_n 2, 0, 0), (730, .aload_n 0, 0, 0), (731, .iload_n 3, 0, 0), (732, .iconst 1, 1, 0), (733, .iadd, 0, 0), (734, .iaload, 0, 0), (735, .invokevirtual 84, 0, 1930)],
  [(738, .if_icmp .eq 620, 0, 1358), (741, .iconst 0, 0, 0), (742, .ireturn, 0, 0), (743, .aload_n 1, 0, 0), (744, .aload_n 0, 0, 0), (745, .iload_n 3, 0, 0), (746, .iconst 1, 1, 0), (747, .iadd, 0, 0), (748, .iaload, 0, 0), (749, .invokevirtual 85, 0, 870)],
  [(752, .aload_n 2, 0, 0), (753, .aload_n 0, 0, 0), (754, .iload_n 3, 0, 0), (755, .iconst 1, 1, 0), (756, .iadd, 0, 0), (757, .iaload, 0, 0), (758, .invokevirtual 88, 0, 1950), (761, .if_icmp .eq 597, 0, 1358), (764, .iconst 0, 0, 0), (765, .ireturn, 0, 0), (766, .aload_n 1, 0, 0), (767, .aload_n 0, 0, 0)]]
def qp_kL6 : List (List (Nat × Instr × Int32 × Nat)) := [
  [(768, .iload_n 3, 0, 0), (769, .iconst 1, 1, 0), (770, .iadd, 0, 0), (771, .iaload, 0, 0), (772, .invokevirtual 89, 0, 880), (775, .aload_n 2, 0, 0), (776, .aload_n 0, 0, 0), (777, .iload_n 3, 0, 0), (778, .iconst 1, 1, 0), (779, .iadd, 0, 0), (780, .iaload, 0, 0), (781, .invokevirtual 92, 0, 1960)],
  [(784, .if_icmp .eq 574, 0, 1358), (787, .iconst 0, 0, 0), (788, .ireturn, 0, 0), (789, .aload_n 1, 0, 0), (790, .aload_n 0, 0, 0), (791, .iload_n 3, 0, 0), (792, .iconst 1, 1, 0), (793, .iadd, 0, 0), (794, .iaload, 0, 0), (795, .aload_n 0, 0, 0), (796, .iload_n 3, 0, 0), (797, .iconst 2, 2, 0), (798, .iadd, 0, 0), (799, .iaload, 0, 0)],
  [(800, .invokevirtual 93, 0, 890), (803, .aload_n 2, 0, 0), (804, .aload_n 0, 0, 0), (805, .iload_n 3, 0, 0), (806, .iconst 1, 1, 0), (807, .iadd, 0, 0), (808, .iaload, 0, 0), (809, .aload_n 0, 0, 0), (810, .iload_n 3, 0, 0), (811, .iconst 2, 2, 0), (812, .iadd, 0, 0), (813, .iaload, 0, 0), (814, .invokevirtual 96, 0, 1970)],
  [(817, .if_icmp .eq 541, 0, 1358), (820, .iconst 0, 0, 0), (821, .ireturn, 0, 0), (822, .aload_n 1, 0, 0), (823, .aload_n 0, 0, 0), (824, .iload_n 3, 0, 0), (825, .iconst 1, 1, 0), (826, .iadd, 0, 0), (827, .iaload, 0, 0), (828, .aload_n 0, 0, 0), (829, .iload_n 3, 0, 0), (830, .iconst 2, 2, 0), (831, .iadd, 0, 0)],
  [(832, .iaload, 0, 0), (833, .invokevirtual 97, 0, 910), (836, .aload_n 2, 0, 0), (837, .aload_n 0, 0, 0), (838, .iload_n 3, 0, 0), (839, .iconst 1, 1, 0), (840, .iadd, 0, 0), (841, .iaload, 0, 0), (842, .aload_n 0, 0, 0), (843, .iload_n 3, 0, 0), (844, .iconst 2, 2, 0), (845, .iadd, 0, 0), (846, .iaload, 0, 0), (847, .invokevirtual 100, 0, 1980)],
  [(850, .if_icmp .eq 508, 0, 1358), (853, .iconst 0, 0, 0), (854, .ireturn, 0, 0), (855, .aload_n 1, 0, 0), (856, .aload_n 0, 0, 0), (857, .iload_n 3, 0, 0), (858, .iconst 1, 1, 0), (859, .iadd, 0, 0), (860, .iaload, 0, 0), (861, .aload_n 0, 0, 0), (862, .iload_n 3, 0, 0), (863, .iconst 2, 2, 0)],
  [(864, .iadd, 0, 0), (865, .iaload, 0, 0), (866, .invokevirtual 101, 0, 920), (869, .aload_n 2, 0, 0), (870, .aload_n 0, 0, 0), (871, .iload_n 3, 0, 0), (872, .iconst 1, 1, 0), (873, .iadd, 0, 0), (874, .iaload, 0, 0), (875, .aload_n 0, 0, 0), (876, .iload_n 3, 0, 0), (877, .iconst 2, 2, 0), (878, .iadd, 0, 0), (879, .iaload, 0, 0)],
  [(880, .invokevirtual 104, 0, 1990), (883, .if_icmp .eq 475, 0, 1358), (886, .iconst 0, 0, 0), (887, .ireturn, 0, 0), (888, .aload_n 1, 0, 0), (889, .aload_n 0, 0, 0), (890, .iload_n 3, 0, 0), (891, .iconst 1, 1, 0), (892, .iadd, 0, 0), (893, .iaload, 0, 0), (894, .invokevirtual 105, 0, 940)]]
def qp_kL7 : List (List (Nat × Instr × Int32 × Nat)) := [
  [(897, .aload_n 2, 0, 0), (898, .aload_n 0, 0, 0), (899, .iload_n 3, 0, 0), (900, .iconst 1, 1, 0), (901, .iadd, 0, 0), (902, .iaload, 0, 0), (903, .invokevirtual 108, 0, 2020), (906, .if_icmp .eq 452, 0, 1358), (909, .iconst 0, 0, 0), (910, .ireturn, 0, 0), (911, .aload_n 1, 0, 0)],
  [(912, .aload_n 0, 0, 0), (913, .iload_n 3, 0, 0), (914, .iconst 1, 1, 0), (915, .iadd, 0, 0), (916, .iaload, 0, 0), (917, .invokevirtual 109, 0, 950), (920, .aload_n 2, 0, 0), (921, .aload_n 0, 0, 0), (922, .iload_n 3, 0, 0), (923, .iconst 1, 1, 0), (924, .iadd, 0, 0), (925, .iaload, 0, 0), (926, .invokevirtual 112, 0, 2030)],
  [(929, .if_icmp .eq 429, 0, 1358), (932, .iconst 0, 0, 0), (933, .ireturn, 0, 0), (934, .aload_n 1, 0, 0), (935, .aload_n 0, 0, 0), (936, .iload_n 3, 0, 0), (937, .iconst 1, 1, 0), (938, .iadd, 0, 0), (939, .iaload, 0, 0), (940, .aload_n 0, 0, 0), (941, .iload_n 3, 0, 0), (942, .iconst 2, 2, 0), (943, .iadd, 0, 0)],
  [(944, .iaload, 0, 0), (945, .aload_n 0, 0, 0), (946, .iload_n 3, 0, 0), (947, .iconst 3, 3, 0), (948, .iadd, 0, 0), (949, .iaload, 0, 0), (950, .aload_n 0, 0, 0), (951, .iload_n 3, 0, 0), (952, .iconst 4, 4, 0), (953, .iadd, 0, 0), (954, .iaload, 0, 0), (955, .invokevirtual 113, 0, 960), (958, .aload_n 2, 0, 0), (959, .aload_n 0, 0, 0)],
  [(960, .iload_n 3, 0, 0), (961, .iconst 1, 1, 0), (962, .iadd, 0, 0), (963, .iaload, 0, 0), (964, .aload_n 0, 0, 0), (965, .iload_n 3, 0, 0), (966, .iconst 2, 2, 0), (967, .iadd, 0, 0), (968, .iaload, 0, 0), (969, .aload_n 0, 0, 0), (970, .iload_n 3, 0, 0), (971, .iconst 3, 3, 0), (972, .iadd, 0, 0), (973, .iaload, 0, 0), (974, .aload_n 0, 0, 0), (975, .iload_n 3, 0, 0)],
  [(976, .iconst 4, 4, 0), (977, .iadd, 0, 0), (978, .iaload, 0, 0), (979, .invokevirtual 117, 0, 2040), (982, .if_icmp .eq 376, 0, 1358), (985, .iconst 0, 0, 0), (986, .ireturn, 0, 0), (987, .aload_n 1, 0, 0), (988, .aload_n 0, 0, 0), (989, .iload_n 3, 0, 0), (990, .iconst 1, 1, 0), (991, .iadd, 0, 0)],
  [(992, .iaload, 0, 0), (993, .invokevirtual 118, 0, 1040), (996, .aload_n 2, 0, 0), (997, .aload_n 0, 0, 0), (998, .iload_n 3, 0, 0), (999, .iconst 1, 1, 0), (1000, .iadd, 0, 0), (1001, .iaload, 0, 0), (1002, .invokevirtual 121, 0, 2060), (1005, .if_icmp .eq 353, 0, 1358)],
  [(1008, .iconst 0, 0, 0), (1009, .ireturn, 0, 0), (1010, .aload_n 1, 0, 0), (1011, .aload_n 0, 0, 0), (1012, .iload_n 3, 0, 0), (1013, .iconst 1, 1, 0), (1014, .iadd, 0, 0), (1015, .iaload, 0, 0), (1016, .aload_n 0, 0, 0), (1017, .iload_n 3, 0, 0), (1018, .iconst 2, 2, 0), (1019, .iadd, 0, 0), (1020, .iaload, 0, 0), (1021, .invokevirtual 122, 0, 1130)]]
def qp_kL8 : List (List (Nat × Instr × Int32 × Nat)) := [
  [(1024, .aload_n 2, 0, 0), (1025, .aload_n 0, 0, 0), (1026, .iload_n 3, 0, 0), (1027, .iconst 1, 1, 0), (1028, .iadd, 0, 0), (1029, .iaload, 0, 0), (1030, .aload_n 0, 0, 0), (1031, .iload_n 3, 0, 0), (1032, .iconst 2, 2, 0), (1033, .iadd, 0, 0), (1034, .iaload, 0, 0), (1035, .invokevirtual 125, 0, 2120), (1038, .if_icmp .eq 320, 0, 1358)],
  [(1041, .iconst 0, 0, 0), (1042, .ireturn, 0, 0), (1043, .aload_n 1, 0, 0), (1044, .aload_n 0, 0, 0), (1045, .iload_n 3, 0, 0), (1046, .iconst 1, 1, 0), (1047, .iadd, 0, 0), (1048, .iaload, 0, 0), (1049, .invokevirtual 126, 0, 1150), (1052, .aload_n 2, 0, 0), (1053, .aload_n 0, 0, 0), (1054, .iload_n 3, 0, 0), (1055, .iconst 1, 1, 0)],
  [(1056, .iadd, 0, 0), (1057, .iaload, 0, 0), (1058, .invokevirtual 129, 0, 2130), (1061, .if_icmp .eq 297, 0, 1358), (1064, .iconst 0, 0, 0), (1065, .ireturn, 0, 0), (1066, .aload_n 1, 0, 0), (1067, .aload_n 0, 0, 0), (1068, .iload_n 3, 0, 0), (1069, .iconst 1, 1, 0), (1070, .iadd, 0, 0), (1071, .iaload, 0, 0)],
  [(1072, .invokevirtual 130, 0, 1170), (1075, .aload_n 2, 0, 0), (1076, .aload_n 0, 0, 0), (1077, .iload_n 3, 0, 0), (1078, .iconst 1, 1, 0), (1079, .iadd, 0, 0), (1080, .iaload, 0, 0), (1081, .invokevirtual 133, 0, 2140), (1084, .if_icmp .eq 274, 0, 1358), (1087, .iconst 0, 0, 0)],
  [(1088, .ireturn, 0, 0), (1089, .aload_n 1, 0, 0), (1090, .aload_n 0, 0, 0), (1091, .iload_n 3, 0, 0), (1092, .iconst 1, 1, 0), (1093, .iadd, 0, 0), (1094, .iaload, 0, 0), (1095, .invokevirtual 134, 0, 1190), (1098, .aload_n 2, 0, 0), (1099, .aload_n 0, 0, 0), (1100, .iload_n 3, 0, 0), (1101, .iconst 1, 1, 0), (1102, .iadd, 0, 0), (1103, .iaload, 0, 0)],
  [(1104, .invokevirtual 137, 0, 2160), (1107, .if_icmp .eq 251, 0, 1358), (1110, .iconst 0, 0, 0), (1111, .ireturn, 0, 0), (1112, .aload_n 1, 0, 0), (1113, .aload_n 0, 0, 0), (1114, .iload_n 3, 0, 0), (1115, .iconst 1, 1, 0), (1116, .iadd, 0, 0), (1117, .iaload, 0, 0), (1118, .aload_n 0, 0, 0), (1119, .iload_n 3, 0, 0)],
  [(1120, .iconst 2, 2, 0), (1121, .iadd, 0, 0), (1122, .iaload, 0, 0), (1123, .aload_n 0, 0, 0), (1124, .iload_n 3, 0, 0), (1125, .iconst 3, 3, 0), (1126, .iadd, 0, 0), (1127, .iaload, 0, 0), (1128, .invokevirtual 138, 0, 1200), (1131, .aload_n 2, 0, 0), (1132, .aload_n 0, 0, 0), (1133, .iload_n 3, 0, 0), (1134, .iconst 1, 1, 0), (1135, .iadd, 0, 0)],
  [(1136, .iaload, 0, 0), (1137, .aload_n 0, 0, 0), (1138, .iload_n 3, 0, 0), (1139, .iconst 2, 2, 0), (1140, .iadd, 0, 0), (1141, .iaload, 0, 0), (1142, .aload_n 0, 0, 0), (1143, .iload_n 3, 0, 0), (1144, .iconst 3, 3, 0), (1145, .iadd, 0, 0), (1146, .iaload, 0, 0), (1147, .invokevirtual 141, 0, 2170), (1150, .if_icmp .eq 208, 0, 1358)]]
def qp_kL9 : List (List (Nat × Instr × Int32 × Nat)) := [
  [(1153, .iconst 0, 0, 0), (1154, .ireturn, 0, 0), (1155, .aload_n 1, 0, 0), (1156, .aload_n 0, 0, 0), (1157, .iload_n 3, 0, 0), (1158, .iconst 1, 1, 0), (1159, .iadd, 0, 0), (1160, .iaload, 0, 0), (1161, .aload_n 0, 0, 0), (1162, .iload_n 3, 0, 0), (1163, .iconst 2, 2, 0), (1164, .iadd, 0, 0), (1165, .iaload, 0, 0), (1166, .invokevirtual 142, 0, 1230)],
  [(1169, .aload_n 2, 0, 0), (1170, .aload_n 0, 0, 0), (1171, .iload_n 3, 0, 0), (1172, .iconst 1, 1, 0), (1173, .iadd, 0, 0), (1174, .iaload, 0, 0), (1175, .aload_n 0, 0, 0), (1176, .iload_n 3, 0, 0), (1177, .iconst 2, 2, 0), (1178, .iadd, 0, 0), (1179, .iaload, 0, 0), (1180, .invokevirtual 145, 0, 2200), (1183, .if_icmp .eq 175, 0, 1358)],
  [(1186, .iconst 0, 0, 0), (1187, .ireturn, 0, 0), (1188, .aload_n 1, 0, 0), (1189, .aload_n 0, 0, 0), (1190, .iload_n 3, 0, 0), (1191, .iconst 1, 1, 0), (1192, .iadd, 0, 0), (1193, .iaload, 0, 0), (1194, .invokevirtual 146, 0, 1290), (1197, .aload_n 2, 0, 0), (1198, .aload_n 0, 0, 0), (1199, .iload_n 3, 0, 0)],
  [(1200, .iconst 1, 1, 0), (1201, .iadd, 0, 0), (1202, .iaload, 0, 0), (1203, .invokevirtual 149, 0, 2230), (1206, .if_icmp .eq 152, 0, 1358), (1209, .iconst 0, 0, 0), (1210, .ireturn, 0, 0), (1211, .aload_n 1, 0, 0), (1212, .aload_n 0, 0, 0), (1213, .iload_n 3, 0, 0), (1214, .iconst 1, 1, 0), (1215, .iadd, 0, 0)],
  [(1216, .iaload, 0, 0), (1217, .aload_n 0, 0, 0), (1218, .iload_n 3, 0, 0), (1219, .iconst 2, 2, 0), (1220, .iadd, 0, 0), (1221, .iaload, 0, 0), (1222, .invokevirtual 150, 0, 1320), (1225, .aload_n 2, 0, 0), (1226, .aload_n 0, 0, 0), (1227, .iload_n 3, 0, 0), (1228, .iconst 1, 1, 0), (1229, .iadd, 0, 0), (1230, .iaload, 0, 0), (1231, .aload_n 0, 0, 0)],
  [(1232, .iload_n 3, 0, 0), (1233, .iconst 2, 2, 0), (1234, .iadd, 0, 0), (1235, .iaload, 0, 0), (1236, .invokevirtual 153, 0, 2240), (1239, .if_icmp .eq 119, 0, 1358), (1242, .iconst 0, 0, 0), (1243, .ireturn, 0, 0), (1244, .aload_n 1, 0, 0), (1245, .invokevirtual 154, 0, 1350)],
  [(1248, .aload_n 2, 0, 0), (1249, .invokevirtual 158, 0, 2270), (1252, .if_icmp .eq 106, 0, 1358), (1255, .iconst 0, 0, 0), (1256, .ireturn, 0, 0), (1257, .aload_n 1, 0, 0), (1258, .invokevirtual 159, 0, 1360), (1261, .aload_n 2, 0, 0), (1262, .invokevirtual 163, 0, 2280)],
  [(1265, .lcmp, 0, 0), (1266, .ifCond .eq 92, 0, 1358), (1269, .iconst 0, 0, 0), (1270, .ireturn, 0, 0), (1271, .aload_n 1, 0, 0), (1272, .invokevirtual 164, 0, 1370), (1275, .aload_n 2, 0, 0), (1276, .invokevirtual 167, 0, 2290), (1279, .lcmp, 0, 0)]]
def qp_kL10 : List (List (Nat × Instr × Int32 × Nat)) := [
  [(1280, .ifCond .eq 78, 0, 1358), (1283, .iconst 0, 0, 0), (1284, .ireturn, 0, 0), (1285, .aload_n 1, 0, 0), (1286, .aload_n 0, 0, 0), (1287, .iload_n 3, 0, 0), (1288, .iconst 1, 1, 0), (1289, .iadd, 0, 0), (1290, .iaload, 0, 0), (1291, .invokevirtual 168, 0, 1380), (1294, .aload_n 2, 0, 0), (1295, .aload_n 0, 0, 0)],
  [(1296, .iload_n 3, 0, 0), (1297, .iconst 1, 1, 0), (1298, .iadd, 0, 0), (1299, .iaload, 0, 0), (1300, .invokevirtual 171, 0, 2300), (1303, .if_icmp .eq 55, 0, 1358), (1306, .iconst 0, 0, 0), (1307, .ireturn, 0, 0), (1308, .aload_n 1, 0, 0), (1309, .invokevirtual 172, 0, 1420)],
  [(1312, .aload_n 2, 0, 0), (1313, .invokevirtual 175, 0, 2350), (1316, .if_icmp .eq 42, 0, 1358), (1319, .iconst 0, 0, 0), (1320, .ireturn, 0, 0), (1321, .aload_n 1, 0, 0), (1322, .aload_n 0, 0, 0), (1323, .iload_n 3, 0, 0), (1324, .iconst 1, 1, 0), (1325, .iadd, 0, 0), (1326, .iaload, 0, 0), (1327, .invokevirtual 176, 0, 1430)],
  [(1330, .aload_n 2, 0, 0), (1331, .aload_n 0, 0, 0), (1332, .iload_n 3, 0, 0), (1333, .iconst 1, 1, 0), (1334, .iadd, 0, 0), (1335, .iaload, 0, 0), (1336, .invokevirtual 179, 0, 2360), (1339, .if_icmp .eq 19, 0, 1358), (1342, .iconst 0, 0, 0), (1343, .ireturn, 0, 0)],
  [(1344, .aload_n 1, 0, 0), (1345, .invokevirtual 180, 0, 1440), (1348, .aload_n 2, 0, 0), (1349, .invokevirtual 183, 0, 2370), (1352, .lcmp, 0, 0), (1353, .ifCond .eq 5, 0, 1358), (1356, .iconst 0, 0, 0), (1357, .ireturn, 0, 0), (1358, .iinc 3 6, 6, 0)],
  [(1361, .goto (-1343), 0, 18), (1364, .iconst 1, 1, 0), (1365, .ireturn, 0, 0)]]
def qp_kL : List (List (Nat × Instr × Int32 × Nat)) := qp_kL0 ++ (qp_kL1 ++ (qp_kL2 ++ (qp_kL3 ++ (qp_kL4 ++ (qp_kL5 ++ (qp_kL6 ++ (qp_kL7 ++ (qp_kL8 ++ (qp_kL9 ++ (qp_kL10))))))))))
def qp_ks : List (List (List (Nat × Instr × Int32 × Nat))) := [qp_k0, qp_k1, qp_k2, qp_k3, qp_k4, qp_k5, qp_k6, qp_k7, qp_k8, qp_k9, qp_k10, qp_k11, qp_k12, qp_k13, qp_k14, qp_k15, qp_k16, qp_k17, qp_k18, qp_k19, qp_k20, qp_k21, qp_k22, qp_k23, qp_k24, qp_k25, qp_k26, qp_k27, qp_k28, qp_k29, qp_k30, qp_k31, qp_k32, qp_k33, qp_k34, qp_k35, qp_k36, qp_k37, qp_k38, qp_k39, qp_k40, qp_k41, qp_k42, qp_k43, qp_k44, qp_k45, qp_k46, qp_k47, qp_k48, qp_k49, qp_k50, qp_k51, qp_k52, qp_k53, qp_k54, qp_k55, qp_k56, qp_k57, qp_k58, qp_k59, qp_k60, qp_k61, qp_k62, qp_k63, qp_k64, qp_k65, qp_k66, qp_k67, qp_k68, qp_k69, qp_k70, qp_k71, qp_k72, qp_k73, qp_k74, qp_k75, qp_k76, qp_k77, qp_k78, qp_k79, qp_k80, qp_k81, qp_k82, qp_k83, qp_k84, qp_k85, qp_k86, qp_k87, qp_k88, qp_k89, qp_k90, qp_k91, qp_k92, qp_k93, qp_k94, qp_k95, qp_k96, qp_k97, qp_k98, qp_k99, qp_k100, qp_k101, qp_k102, qp_k103, qp_k104, qp_k105, qp_k106, qp_k107, qp_k108, qp_k109, qp_k110, qp_k111, qp_k112, qp_k113, qp_k114, qp_k115, qp_k116, qp_k117, qp_k118, qp_k119, qp_k120, qp_k121, qp_k122, qp_k123, qp_k124, qp_k125, qp_k126, qp_k127, qp_k128, qp_k129, qp_k130, qp_k131, qp_k132, qp_k133, qp_k134, qp_k135, qp_k136, qp_k137, qp_k138, qp_k139, qp_k140, qp_k141, qp_k142, qp_k143, qp_k144, qp_k145, qp_k146, qp_k147, qp_k148, qp_k149, qp_k150, qp_k151, qp_k152, qp_k153, qp_k154, qp_k155, qp_k156, qp_k157, qp_k158, qp_k159, qp_k160, qp_k161, qp_k162, qp_k163, qp_k164, qp_k165, qp_k166, qp_k167, qp_k168, qp_k169, qp_k170, qp_k171, qp_k172, qp_k173, qp_k174, qp_k175, qp_k176, qp_k177, qp_k178, qp_k179, qp_k180, qp_k181, qp_k182, qp_k183, qp_k184, qp_k185, qp_k186, qp_k187, qp_k188, qp_k189, qp_k190, qp_k191, qp_k192, qp_k193, qp_k194, qp_k195, qp_k196, qp_k197, qp_k198, qp_k199, qp_k200, qp_k201, qp_k202, qp_k203, qp_k204, qp_k205, qp_k206, qp_k207, qp_k208, qp_k209, qp_k210, qp_k211, qp_k212, qp_k213, qp_k214, qp_k215, qp_k216, qp_k217, qp_k218, qp_k219, qp_k220, qp_k221, qp_k222, qp_k223, qp_k224, qp_k225, qp_k226, qp_k227, qp_k228, qp_k229, qp_k230, qp_k231, qp_k232, qp_k233, qp_k234, qp_k235, qp_k236, qp_k237]
def qp_kk (mi : Nat) : List (List (Nat × Instr × Int32 × Nat)) := qp_ks.getD mi []
end
section
/-! WHAT IS HELD OF THE TABLES, decided once: each instruction is what the bytes say; each entry of a pool is a word of the Statement's tables -/
def qp_il : Instr → Nat → Nat
  | .tableswitch .., t => t
  | .iload _, _ => 2
  | .lload _, _ => 2
  | .aload _, _ => 2
  | .istore _, _ => 2
  | .lstore _, _ => 2
  | .astore _, _ => 2
  | .bipush _, _ => 2
  | .ldc _, _ => 2
  | .newarray _, _ => 2
  | .sipush _, _ => 3
  | .ldc_w _, _ => 3
  | .ldc2_w _, _ => 3
  | .iinc .., _ => 3
  | .ifCond .., _ => 3
  | .if_icmp .., _ => 3
  | .goto _, _ => 3
  | .getfield _, _ => 3
  | .putfield _, _ => 3
  | .getstatic _, _ => 3
  | .invokevirtual _, _ => 3
  | .invokespecial _, _ => 3
  | .invokestatic _, _ => 3
  | .new _, _ => 3
  | _, _ => 1
def qp_opd (o : Nat) (pc : Nat) (i : Instr) (v : Int32) (t : Nat) : Bool := match i with
  | .iconst n => decide (Int32.ofInt n = v)
  | .bipush n => decide ((Int8.ofInt n).toInt32 = v)
  | .sipush n => decide ((Int16.ofInt n).toInt32 = v)
  | .iinc _ n => decide (Int32.ofInt n = v)
  | .ifCond _ f => decide ((pc : Int) + f = (t : Int))
  | .if_icmp _ f => decide ((pc : Int) + f = (t : Int))
  | .goto f => decide ((pc : Int) + f = (t : Int))
  | .tableswitch df lo hi offs => decide (0 ≤ (pc : Int) + df) && offs.all (fun f => decide (0 ≤ (pc : Int) + f)) && decide ((hi - lo).toNat < offs.size)
  | .ldc x => decide (qp_lk (qp_kR o) x = some v)
  | .ldc_w x => decide (qp_lk (qp_kR o) x = some v)
  | .getfield x => decide (qp_lk (qp_fR o) x = some t)
  | .putfield x => decide (qp_lk (qp_fR o) x = some t)
  | .getstatic x => decide (qp_lk (qp_gR o) x = some t)
  | .invokevirtual x => decide (qp_lk (qp_iR o) x = some t)
  | .invokespecial x => decide (qp_lk (qp_iR o) x = some t)
  | .invokestatic x => decide (qp_lk (qp_iR o) x = some t)
  | .new x => decide (qp_lk (qp_nR o) x = some t)
  | _ => true
def qp_ent (o : Nat) (bs : ByteArray) (q : Nat × Instr × Int32 × Nat) : Bool := decide (decode bs q.1 = .ok (q.2.1, qp_il q.2.1 q.2.2.2)) && qp_opd o q.1 q.2.1 q.2.2.1 q.2.2.2
def qp_all (o : Nat) (bs : ByteArray) (K : List (List (Nat × Instr × Int32 × Nat))) : Bool := K.all (fun b => b.all (qp_ent o bs))
/-- a code table that is right -/
def qp_ok (o : Nat) (bs : ByteArray) (K : List (List (Nat × Instr × Int32 × Nat))) : Prop := ∀ pc e, qp_ft8 K pc = some e → decode bs pc = .ok (e.1, qp_il e.1 e.2.2) ∧ qp_opd o pc e.1 e.2.1 e.2.2 = true
theorem qp_nth_mem {α : Type} {x : α} : ∀ {l : List α} {n : Nat}, qp_nth l n = some x → x ∈ l
  | [], _, h => by simp [qp_nth] at h
  | a :: t, 0, h => by simp only [qp_nth, Option.some.injEq] at h; subst h; exact List.mem_cons_self
  | a :: t, n + 1, h => List.mem_cons_of_mem _ (qp_nth_mem (l := t) (n := n) (by simpa [qp_nth] using h))
theorem qp_lk_mem {α : Type} {x : α} {i : Nat} : ∀ {l : List (Nat × α)}, qp_lk l i = some x → (i, x) ∈ l
  | [], h => by simp [qp_lk] at h
  | q :: t, h => by
    unfold qp_lk at h
    cases hb : Nat.beq q.1 i with
    | true =>
      rw [hb] at h
      have h1 : q.1 = i := Nat.eq_of_beq_eq_true hb
      have h2 : q.2 = x := by simpa using h
      subst h1; subst h2
      exact List.mem_cons_self
    | false =>
      rw [hb] at h
      exact List.mem_cons_of_mem _ (qp_lk_mem (l := t) (by simpa using h))
theorem qp_ok_of {o : Nat} {bs : ByteArray} {K : List (List (Nat × Instr × Int32 × Nat))} (h : qp_all o bs K = true) : qp_ok o bs K := by
  intro pc e he
  unfold qp_ft8 at he
  cases hb : qp_nth K (pc / 16) with
  | none => rw [hb] at he; cases he
  | some b =>
    rw [hb] at he
    have h1 := List.all_eq_true.mp (List.all_eq_true.mp h b (qp_nth_mem hb)) _ (qp_lk_mem he)
    unfold qp_ent at h1
    simp only [Bool.and_eq_true, decide_eq_true_eq] at h1
    exact h1
theorem qp_h0 : qp_all 0 prog_1_method_1_code qp_k0 = true := by decide +kernel
theorem qp_h1 : qp_all 1 prog_11_method_1_code qp_k1 = true := by decide +kernel
theorem qp_h2 : qp_all 13 prog_15_method_65_code qp_k2 = true := by decide +kernel
theorem qp_h3 : qp_all 2 prog_8_method_1_code qp_k3 = true := by decide +kernel
theorem qp_h4 : qp_all 3 prog_3_method_1_code qp_k4 = true := by decide +kernel
theorem qp_h5 : qp_all 4 prog_4_method_1_code qp_k5 = true := by decide +kernel
theorem qp_h6 : qp_all 5 prog_10_method_1_code qp_k6 = true := by decide +kernel
theorem qp_h7 : qp_all 6 prog_9_method_1_code qp_k7 = true := by decide +kernel
theorem qp_h8 : qp_all 7 prog_7_method_1_code qp_k8 = true := by decide +kernel
theorem qp_h9 : qp_all 8 prog_5_method_1_code qp_k9 = true := by decide +kernel
theorem qp_h10 : qp_all 9 prog_2_method_1_code qp_k10 = true := by decide +kernel
theorem qp_h11 : qp_all 0 prog_1_method_2_code qp_k11 = true := by decide +kernel
theorem qp_h12 : qp_all 0 prog_1_method_46_code qp_k12 = true := by decide +kernel
theorem qp_h13 : qp_all 1 prog_11_method_2_code qp_k13 = true := by decide +kernel
theorem qp_h14 : qp_all 0 prog_1_method_43_code qp_k14 = true := by decide +kernel
theorem qp_h15 : qp_all 1 prog_11_method_9_code qp_k15 = true := by decide +kernel
theorem qp_h16 : qp_all 0 prog_1_method_3_code qp_k16 = true := by decide +kernel
theorem qp_h17 : qp_all 0 prog_1_method_45_code qp_k17 = true := by decide +kernel
theorem qp_h18 : qp_all 0 prog_1_method_44_code qp_k18 = true := by decide +kernel
theorem qp_h19 : qp_all 1 prog_11_method_4_code qp_k19 = true := by decide +kernel
theorem qp_h20 : qp_all 1 prog_11_method_3_code qp_k20 = true := by decide +kernel
theorem qp_h21 : qp_all 1 prog_11_method_5_code qp_k21 = true := by decide +kernel
theorem qp_h22 : qp_all 1 prog_11_method_7_code qp_k22 = true := by decide +kernel
theorem qp_h23 : qp_all 1 prog_11_method_8_code qp_k23 = true := by decide +kernel
theorem qp_h24 : qp_all 0 prog_1_method_47_code qp_k24 = true := by decide +kernel
theorem qp_h25 : qp_all 0 prog_1_method_4_code qp_k25 = true := by decide +kernel
theorem qp_h26 : qp_all 0 prog_1_method_5_code qp_k26 = true := by decide +kernel
theorem qp_h27 : qp_all 1 prog_11_method_10_code qp_k27 = true := by decide +kernel
theorem qp_h28 : qp_all 0 prog_1_method_6_code qp_k28 = true := by decide +kernel
theorem qp_h29 : qp_all 1 prog_11_method_6_code qp_k29 = true := by decide +kernel
theorem qp_h30 : qp_all 1 prog_11_method_11_code qp_k30 = true := by decide +kernel
theorem qp_h31 : qp_all 0 prog_1_method_7_code qp_k31 = true := by decide +kernel
theorem qp_h32 : qp_all 1 prog_11_method_12_code qp_k32 = true := by decide +kernel
theorem qp_h33 : qp_all 0 prog_1_method_8_code qp_k33 = true := by decide +kernel
theorem qp_h34 : qp_all 0 prog_1_method_9_code qp_k34 = true := by decide +kernel
theorem qp_h35 : qp_all 0 prog_1_method_10_code qp_k35 = true := by decide +kernel
theorem qp_h36 : qp_all 2 prog_8_method_2_code qp_k36 = true := by decide +kernel
theorem qp_h37 : qp_all 3 prog_3_method_3_code qp_k37 = true := by decide +kernel
theorem qp_h38 : qp_all 2 prog_8_method_3_code qp_k38 = true := by decide +kernel
theorem qp_h39 : qp_all 2 prog_8_method_4_code qp_k39 = true := by decide +kernel
theorem qp_h40 : qp_all 2 prog_8_method_6_code qp_k40 = true := by decide +kernel
theorem qp_h41 : qp_all 2 prog_8_method_5_code qp_k41 = true := by decide +kernel
theorem qp_h42 : qp_all 2 prog_8_method_7_code qp_k42 = true := by decide +kernel
theorem qp_h43 : qp_all 3 prog_3_method_4_code qp_k43 = true := by decide +kernel
theorem qp_h44 : qp_all 0 prog_1_method_11_code qp_k44 = true := by decide +kernel
theorem qp_h45 : qp_all 3 prog_3_method_5_code qp_k45 = true := by decide +kernel
theorem qp_h46 : qp_all 3 prog_3_method_6_code qp_k46 = true := by decide +kernel
theorem qp_h47 : qp_all 3 prog_3_method_7_code qp_k47 = true := by decide +kernel
theorem qp_h48 : qp_all 4 prog_4_method_2_code qp_k48 = true := by decide +kernel
theorem qp_h49 : qp_all 11 prog_6_method_2_code qp_k49 = true := by decide +kernel
theorem qp_h50 : qp_all 11 prog_6_method_3_code qp_k50 = true := by decide +kernel
theorem qp_h51 : qp_all 0 prog_1_method_12_code qp_k51 = true := by decide +kernel
theorem qp_h52 : qp_all 3 prog_3_method_2_code qp_k52 = true := by decide +kernel
theorem qp_h53 : qp_all 4 prog_4_method_3_code qp_k53 = true := by decide +kernel
theorem qp_h54 : qp_all 5 prog_10_method_2_code qp_k54 = true := by decide +kernel
theorem qp_h55 : qp_all 11 prog_6_method_4_code qp_k55 = true := by decide +kernel
theorem qp_h56 : qp_all 3 prog_3_method_8_code qp_k56 = true := by decide +kernel
theorem qp_h57 : qp_all 3 prog_3_method_10_code qp_k57 = true := by decide +kernel
theorem qp_h58 : qp_all 5 prog_10_method_3_code qp_k58 = true := by decide +kernel
theorem qp_h59 : qp_all 13 prog_15_method_69_code qp_k59 = true := by decide +kernel
theorem qp_h60 : qp_all 0 prog_1_method_50_code qp_k60 = true := by decide +kernel
theorem qp_h61 : qp_all 4 prog_4_method_4_code qp_k61 = true := by decide +kernel
theorem qp_h62 : qp_all 11 prog_6_method_5_code qp_k62 = true := by decide +kernel
theorem qp_h63 : qp_all 5 prog_10_method_4_code qp_k63 = true := by decide +kernel
theorem qp_h64 : qp_all 5 prog_10_method_5_code qp_k64 = true := by decide +kernel
theorem qp_h65 : qp_all 5 prog_10_method_6_code qp_k65 = true := by decide +kernel
theorem qp_h66 : qp_all 4 prog_4_method_7_code qp_k66 = true := by decide +kernel
theorem qp_h67 : qp_all 11 prog_6_method_9_code qp_k67 = true := by decide +kernel
theorem qp_h68 : qp_all 13 prog_15_method_59_code qp_k68 = true := by decide +kernel
theorem qp_h69 : qp_all 0 prog_1_method_13_code qp_k69 = true := by decide +kernel
theorem qp_h70 : qp_all 4 prog_4_method_6_code qp_k70 = true := by decide +kernel
theorem qp_h71 : qp_all 5 prog_10_method_7_code qp_k71 = true := by decide +kernel
theorem qp_h72 : qp_all 0 prog_1_method_14_code qp_k72 = true := by decide +kernel
theorem qp_h73 : qp_all 4 prog_4_method_11_code qp_k73 = true := by decide +kernel
theorem qp_h74 : qp_all 4 prog_4_method_12_code qp_k74 = true := by decide +kernel
theorem qp_h75 : qp_all 4 prog_4_method_13_code qp_k75 = true := by decide +kernel
theorem qp_h76 : qp_all 11 prog_6_method_6_code qp_k76 = true := by decide +kernel
theorem qp_h77 : qp_all 11 prog_6_method_7_code qp_k77 = true := by decide +kernel
theorem qp_h78 : qp_all 11 prog_6_method_8_code qp_k78 = true := by decide +kernel
theorem qp_h79 : qp_all 4 prog_4_method_14_code qp_k79 = true := by decide +kernel
theorem qp_h80 : qp_all 0 prog_1_method_15_code qp_k80 = true := by decide +kernel
theorem qp_h81 : qp_all 4 prog_4_method_8_code qp_k81 = true := by decide +kernel
theorem qp_h82 : qp_all 0 prog_1_method_16_code qp_k82 = true := by decide +kernel
theorem qp_h83 : qp_all 0 prog_1_method_17_code qp_k83 = true := by decide +kernel
theorem qp_h84 : qp_all 4 prog_4_method_15_code qp_k84 = true := by decide +kernel
theorem qp_h85 : qp_all 0 prog_1_method_18_code qp_k85 = true := by decide +kernel
theorem qp_h86 : qp_all 4 prog_4_method_10_code qp_k86 = true := by decide +kernel
theorem qp_h87 : qp_all 0 prog_1_method_19_code qp_k87 = true := by decide +kernel
theorem qp_h88 : qp_all 0 prog_1_method_20_code qp_k88 = true := by decide +kernel
theorem qp_h89 : qp_all 0 prog_1_method_21_code qp_k89 = true := by decide +kernel
theorem qp_h90 : qp_all 4 prog_4_method_9_code qp_k90 = true := by decide +kernel
theorem qp_h91 : qp_all 0 prog_1_method_22_code qp_k91 = true := by decide +kernel
theorem qp_h92 : qp_all 0 prog_1_method_23_code qp_k92 = true := by decide +kernel
theorem qp_h93 : qp_all 4 prog_4_method_5_code qp_k93 = true := by decide +kernel
theorem qp_h94 : qp_all 0 prog_1_method_24_code qp_k94 = true := by decide +kernel
theorem qp_h95 : qp_all 0 prog_1_method_25_code qp_k95 = true := by decide +kernel
theorem qp_h96 : qp_all 0 prog_1_method_26_code qp_k96 = true := by decide +kernel
theorem qp_h97 : qp_all 6 prog_9_method_2_code qp_k97 = true := by decide +kernel
theorem qp_h98 : qp_all 6 prog_9_method_6_code qp_k98 = true := by decide +kernel
theorem qp_h99 : qp_all 11 prog_6_method_10_code qp_k99 = true := by decide +kernel
theorem qp_h100 : qp_all 12 prog_14_method_49_code qp_k100 = true := by decide +kernel
theorem qp_h101 : qp_all 6 prog_9_method_4_code qp_k101 = true := by decide +kernel
theorem qp_h102 : qp_all 6 prog_9_method_5_code qp_k102 = true := by decide +kernel
theorem qp_h103 : qp_all 6 prog_9_method_3_code qp_k103 = true := by decide +kernel
theorem qp_h104 : qp_all 0 prog_1_method_27_code qp_k104 = true := by decide +kernel
theorem qp_h105 : qp_all 0 prog_1_method_52_code qp_k105 = true := by decide +kernel
theorem qp_h106 : qp_all 0 prog_1_method_53_code qp_k106 = true := by decide +kernel
theorem qp_h107 : qp_all 7 prog_7_method_2_code qp_k107 = true := by decide +kernel
theorem qp_h108 : qp_all 7 prog_7_method_3_code qp_k108 = true := by decide +kernel
theorem qp_h109 : qp_all 7 prog_7_method_4_code qp_k109 = true := by decide +kernel
theorem qp_h110 : qp_all 7 prog_7_method_5_code qp_k110 = true := by decide +kernel
theorem qp_h111 : qp_all 0 prog_1_method_48_code qp_k111 = true := by decide +kernel
theorem qp_h112 : qp_all 0 prog_1_method_49_code qp_k112 = true := by decide +kernel
theorem qp_h113 : qp_all 0 prog_1_method_28_code qp_k113 = true := by decide +kernel
theorem qp_h114 : qp_all 7 prog_7_method_6_code qp_k114 = true := by decide +kernel
theorem qp_h115 : qp_all 0 prog_1_method_29_code qp_k115 = true := by decide +kernel
theorem qp_h116 : qp_all 7 prog_7_method_7_code qp_k116 = true := by decide +kernel
theorem qp_h117 : qp_all 0 prog_1_method_30_code qp_k117 = true := by decide +kernel
theorem qp_h118 : qp_all 5 prog_10_method_10_code qp_k118 = true := by decide +kernel
theorem qp_h119 : qp_all 0 prog_1_method_31_code qp_k119 = true := by decide +kernel
theorem qp_h120 : qp_all 0 prog_1_method_32_code qp_k120 = true := by decide +kernel
theorem qp_h121 : qp_all 8 prog_5_method_2_code qp_k121 = true := by decide +kernel
theorem qp_h122 : qp_all 8 prog_5_method_3_code qp_k122 = true := by decide +kernel
theorem qp_h123 : qp_all 0 prog_1_method_33_code qp_k123 = true := by decide +kernel
theorem qp_h124 : qp_all 9 prog_2_method_3_code qp_k124 = true := by decide +kernel
theorem qp_h125 : qp_all 9 prog_2_method_5_code qp_k125 = true := by decide +kernel
theorem qp_h126 : qp_all 9 prog_2_method_6_code qp_k126 = true := by decide +kernel
theorem qp_h127 : qp_all 9 prog_2_method_7_code qp_k127 = true := by decide +kernel
theorem qp_h128 : qp_all 9 prog_2_method_2_code qp_k128 = true := by decide +kernel
theorem qp_h129 : qp_all 0 prog_1_method_34_code qp_k129 = true := by decide +kernel
theorem qp_h130 : qp_all 9 prog_2_method_4_code qp_k130 = true := by decide +kernel
theorem qp_h131 : qp_all 5 prog_10_method_8_code qp_k131 = true := by decide +kernel
theorem qp_h132 : qp_all 0 prog_1_method_35_code qp_k132 = true := by decide +kernel
theorem qp_h133 : qp_all 4 prog_4_method_16_code qp_k133 = true := by decide +kernel
theorem qp_h134 : qp_all 5 prog_10_method_9_code qp_k134 = true := by decide +kernel
theorem qp_h135 : qp_all 0 prog_1_method_36_code qp_k135 = true := by decide +kernel
theorem qp_h136 : qp_all 0 prog_1_method_37_code qp_k136 = true := by decide +kernel
theorem qp_h137 : qp_all 0 prog_1_method_38_code qp_k137 = true := by decide +kernel
theorem qp_h138 : qp_all 0 prog_1_method_39_code qp_k138 = true := by decide +kernel
theorem qp_h139 : qp_all 0 prog_1_method_51_code qp_k139 = true := by decide +kernel
theorem qp_h140 : qp_all 3 prog_3_method_9_code qp_k140 = true := by decide +kernel
theorem qp_h141 : qp_all 1 prog_11_method_13_code qp_k141 = true := by decide +kernel
theorem qp_h142 : qp_all 0 prog_1_method_40_code qp_k142 = true := by decide +kernel
theorem qp_h143 : qp_all 0 prog_1_method_41_code qp_k143 = true := by decide +kernel
theorem qp_h144 : qp_all 0 prog_1_method_42_code qp_k144 = true := by decide +kernel
theorem qp_h145 : qp_all 1 prog_11_method_14_code qp_k145 = true := by decide +kernel
theorem qp_h146 : qp_all 10 prog_13_method_1_code qp_k146 = true := by decide +kernel
theorem qp_h147 : qp_all 10 prog_13_method_8_code qp_k147 = true := by decide +kernel
theorem qp_h148 : qp_all 10 prog_13_method_6_code qp_k148 = true := by decide +kernel
theorem qp_h149 : qp_all 10 prog_13_method_3_code qp_k149 = true := by decide +kernel
theorem qp_h150 : qp_all 10 prog_13_method_4_code qp_k150 = true := by decide +kernel
theorem qp_h151 : qp_all 10 prog_13_method_9_code qp_k151 = true := by decide +kernel
theorem qp_h152 : qp_all 10 prog_13_method_10_code qp_k152 = true := by decide +kernel
theorem qp_h153 : qp_all 10 prog_13_method_5_code qp_k153 = true := by decide +kernel
theorem qp_h154 : qp_all 10 prog_13_method_11_code qp_k154 = true := by decide +kernel
theorem qp_h155 : qp_all 10 prog_13_method_12_code qp_k155 = true := by decide +kernel
theorem qp_h156 : qp_all 10 prog_13_method_13_code qp_k156 = true := by decide +kernel
theorem qp_h157 : qp_all 10 prog_13_method_14_code qp_k157 = true := by decide +kernel
theorem qp_h158 : qp_all 10 prog_13_method_7_code qp_k158 = true := by decide +kernel
theorem qp_h159 : qp_all 10 prog_13_method_15_code qp_k159 = true := by decide +kernel
theorem qp_h160 : qp_all 10 prog_13_method_23_code qp_k160 = true := by decide +kernel
theorem qp_h161 : qp_all 10 prog_13_method_22_code qp_k161 = true := by decide +kernel
theorem qp_h162 : qp_all 10 prog_13_method_19_code qp_k162 = true := by decide +kernel
theorem qp_h163 : qp_all 10 prog_13_method_17_code qp_k163 = true := by decide +kernel
theorem qp_h164 : qp_all 10 prog_13_method_16_code qp_k164 = true := by decide +kernel
theorem qp_h165 : qp_all 10 prog_13_method_18_code qp_k165 = true := by decide +kernel
theorem qp_h166 : qp_all 10 prog_13_method_21_code qp_k166 = true := by decide +kernel
theorem qp_h167 : qp_all 10 prog_13_method_20_code qp_k167 = true := by decide +kernel
theorem qp_h168 : qp_all 10 prog_13_method_24_code qp_k168 = true := by decide +kernel
theorem qp_h169 : qp_all 10 prog_13_method_25_code qp_k169 = true := by decide +kernel
theorem qp_h170 : qp_all 10 prog_13_method_44_code qp_k170 = true := by decide +kernel
theorem qp_h171 : qp_all 10 prog_13_method_35_code qp_k171 = true := by decide +kernel
theorem qp_h172 : qp_all 10 prog_13_method_43_code qp_k172 = true := by decide +kernel
theorem qp_h173 : qp_all 10 prog_13_method_40_code qp_k173 = true := by decide +kernel
theorem qp_h174 : qp_all 10 prog_13_method_39_code qp_k174 = true := by decide +kernel
theorem qp_h175 : qp_all 10 prog_13_method_37_code qp_k175 = true := by decide +kernel
theorem qp_h176 : qp_all 10 prog_13_method_38_code qp_k176 = true := by decide +kernel
theorem qp_h177 : qp_all 10 prog_13_method_41_code qp_k177 = true := by decide +kernel
theorem qp_h178 : qp_all 10 prog_13_method_28_code qp_k178 = true := by decide +kernel
theorem qp_h179 : qp_all 10 prog_13_method_42_code qp_k179 = true := by decide +kernel
theorem qp_h180 : qp_all 10 prog_13_method_47_code qp_k180 = true := by decide +kernel
theorem qp_h181 : qp_all 10 prog_13_method_45_code qp_k181 = true := by decide +kernel
theorem qp_h182 : qp_all 10 prog_13_method_46_code qp_k182 = true := by decide +kernel
theorem qp_h183 : qp_all 10 prog_13_method_48_code qp_k183 = true := by decide +kernel
theorem qp_h184 : qp_all 10 prog_13_method_34_code qp_k184 = true := by decide +kernel
theorem qp_h185 : qp_all 10 prog_13_method_33_code qp_k185 = true := by decide +kernel
theorem qp_h186 : qp_all 10 prog_13_method_32_code qp_k186 = true := by decide +kernel
theorem qp_h187 : qp_all 10 prog_13_method_30_code qp_k187 = true := by decide +kernel
theorem qp_h188 : qp_all 10 prog_13_method_29_code qp_k188 = true := by decide +kernel
theorem qp_h189 : qp_all 10 prog_13_method_49_code qp_k189 = true := by decide +kernel
theorem qp_h190 : qp_all 10 prog_13_method_36_code qp_k190 = true := by decide +kernel
theorem qp_h191 : qp_all 10 prog_13_method_50_code qp_k191 = true := by decide +kernel
theorem qp_h192 : qp_all 10 prog_13_method_51_code qp_k192 = true := by decide +kernel
theorem qp_h193 : qp_all 10 prog_13_method_53_code qp_k193 = true := by decide +kernel
theorem qp_h194 : qp_all 10 prog_13_method_52_code qp_k194 = true := by decide +kernel
theorem qp_h195 : qp_all 10 prog_13_method_54_code qp_k195 = true := by decide +kernel
theorem qp_h196 : qp_all 10 prog_13_method_55_code qp_k196 = true := by decide +kernel
theorem qp_h197 : qp_all 10 prog_13_method_56_code qp_k197 = true := by decide +kernel
theorem qp_h198 : qp_all 10 prog_13_method_57_code qp_k198 = true := by decide +kernel
theorem qp_h199 : qp_all 10 prog_13_method_59_code qp_k199 = true := by decide +kernel
theorem qp_h200 : qp_all 10 prog_13_method_58_code qp_k200 = true := by decide +kernel
theorem qp_h201 : qp_all 10 prog_13_method_31_code qp_k201 = true := by decide +kernel
theorem qp_h202 : qp_all 10 prog_13_method_60_code qp_k202 = true := by decide +kernel
theorem qp_h203 : qp_all 10 prog_13_method_61_code qp_k203 = true := by decide +kernel
theorem qp_h204 : qp_all 10 prog_13_method_63_code qp_k204 = true := by decide +kernel
theorem qp_h205 : qp_all 10 prog_13_method_62_code qp_k205 = true := by decide +kernel
theorem qp_h206 : qp_all 10 prog_13_method_68_code qp_k206 = true := by decide +kernel
theorem qp_h207 : qp_all 10 prog_13_method_64_code qp_k207 = true := by decide +kernel
theorem qp_h208 : qp_all 10 prog_13_method_66_code qp_k208 = true := by decide +kernel
theorem qp_h209 : qp_all 10 prog_13_method_67_code qp_k209 = true := by decide +kernel
theorem qp_h210 : qp_all 10 prog_13_method_65_code qp_k210 = true := by decide +kernel
theorem qp_h211 : qp_all 10 prog_13_method_27_code qp_k211 = true := by decide +kernel
theorem qp_h212 : qp_all 10 prog_13_method_69_code qp_k212 = true := by decide +kernel
theorem qp_h213 : qp_all 10 prog_13_method_70_code qp_k213 = true := by decide +kernel
theorem qp_h214 : qp_all 10 prog_13_method_72_code qp_k214 = true := by decide +kernel
theorem qp_h215 : qp_all 10 prog_13_method_71_code qp_k215 = true := by decide +kernel
theorem qp_h216 : qp_all 10 prog_13_method_73_code qp_k216 = true := by decide +kernel
theorem qp_h217 : qp_all 10 prog_13_method_76_code qp_k217 = true := by decide +kernel
theorem qp_h218 : qp_all 10 prog_13_method_75_code qp_k218 = true := by decide +kernel
theorem qp_h219 : qp_all 10 prog_13_method_74_code qp_k219 = true := by decide +kernel
theorem qp_h220 : qp_all 10 prog_13_method_79_code qp_k220 = true := by decide +kernel
theorem qp_h221 : qp_all 10 prog_13_method_78_code qp_k221 = true := by decide +kernel
theorem qp_h222 : qp_all 10 prog_13_method_77_code qp_k222 = true := by decide +kernel
theorem qp_h223 : qp_all 10 prog_13_method_80_code qp_k223 = true := by decide +kernel
theorem qp_h224 : qp_all 10 prog_13_method_83_code qp_k224 = true := by decide +kernel
theorem qp_h225 : qp_all 10 prog_13_method_81_code qp_k225 = true := by decide +kernel
theorem qp_h226 : qp_all 10 prog_13_method_82_code qp_k226 = true := by decide +kernel
theorem qp_h227 : qp_all 10 prog_13_method_84_code qp_k227 = true := by decide +kernel
theorem qp_h228 : qp_all 10 prog_13_method_85_code qp_k228 = true := by decide +kernel
theorem qp_h229 : qp_all 10 prog_13_method_86_code qp_k229 = true := by decide +kernel
theorem qp_h230 : qp_all 10 prog_13_method_91_code qp_k230 = true := by decide +kernel
theorem qp_h231 : qp_all 10 prog_13_method_90_code qp_k231 = true := by decide +kernel
theorem qp_h232 : qp_all 10 prog_13_method_89_code qp_k232 = true := by decide +kernel
theorem qp_h233 : qp_all 10 prog_13_method_88_code qp_k233 = true := by decide +kernel
theorem qp_h234 : qp_all 10 prog_13_method_87_code qp_k234 = true := by decide +kernel
theorem qp_h235 : qp_all 10 prog_13_method_92_code qp_k235 = true := by decide +kernel
theorem qp_h236 : qp_all 10 prog_13_method_93_code qp_k236 = true := by decide +kernel
theorem qp_h237 : qp_all 10 prog_13_method_94_code qp_k237 = true := by decide +kernel
end
section
theorem qp_hL0 : qp_kL0.all (fun b => b.all (qp_ent 14 code)) = true := by decide +kernel
theorem qp_hL1 : qp_kL1.all (fun b => b.all (qp_ent 14 code)) = true := by decide +kernel
theorem qp_hL2 : qp_kL2.all (fun b => b.all (qp_ent 14 code)) = true := by decide +kernel
theorem qp_hL3 : qp_kL3.all (fun b => b.all (qp_ent 14 code)) = true := by decide +kernel
end
section
theorem qp_hL4 : qp_kL4.all (fun b => b.all (qp_ent 14 code)) = true := by decide +kernel
theorem qp_hL5 : qp_kL5.all (fun b => b.all (qp_ent 14 code)) = true := by decide +kernel
theorem qp_hL6 : qp_kL6.all (fun b => b.all (qp_ent 14 code)) = true := by decide +kernel
theorem qp_hL7 : qp_kL7.all (fun b => b.all (qp_ent 14 code)) = true := by decide +kernel
end
section
theorem qp_hL8 : qp_kL8.all (fun b => b.all (qp_ent 14 code)) = true := by decide +kernel
theorem qp_hL9 : qp_kL9.all (fun b => b.all (qp_ent 14 code)) = true := by decide +kernel
theorem qp_hL10 : qp_kL10.all (fun b => b.all (qp_ent 14 code)) = true := by decide +kernel
theorem qp_hL : qp_all 14 code qp_kL = true := by
  unfold qp_all qp_kL
  simp only [List.all_append, Bool.and_eq_true]
  exact ⟨qp_hL0, ⟨qp_hL1, ⟨qp_hL2, ⟨qp_hL3, ⟨qp_hL4, ⟨qp_hL5, ⟨qp_hL6, ⟨qp_hL7, ⟨qp_hL8, ⟨qp_hL9, qp_hL10⟩⟩⟩⟩⟩⟩⟩⟩⟩⟩
end
section
/-! THE TABLES' WORDS: what the pools' entries, the methods and the classes rest on is among the Statement's words -/
def qp_tb : List Cond := lw_tbl.filter goodWord
theorem qp_tb_of {w : Cond} (h : w ∈ lw_tbl) (hg : goodWord w = true) : w ∈ qp_tb := List.mem_filter.mpr ⟨h, hg⟩
theorem qp_tb_good {w : Cond} (h : w ∈ qp_tb) : w ∈ lw_tbl ∧ goodWord w = true := List.mem_filter.mp h
theorem qp_in {ws : List Cond} (ps : List Nat) (h : ws = ps.filterMap (fun i => lw_tbl[i]?)) (hg : ws.all goodWord = true) : ∀ w ∈ ws, w ∈ qp_tb := by
  intro w hw
  have h1 := List.all_eq_true.mp hg w hw
  rw [h] at hw
  obtain ⟨i, -, hi⟩ := List.mem_filterMap.mp hw
  exact qp_tb_of (List.mem_of_getElem? hi) h1
def qp_wfw (o : Nat) (q : Nat × Nat) : Cond := .fieldLink (qp_R o) q.1 (qp_R (q.2 / 100)) (qp_T (q.2 / 100) (q.2 % 100)).2.1 (qp_T (q.2 / 100) (q.2 % 100)).2.2.1
theorem qp_wf0 : (qp_fR 0).map (qp_wfw 0) = [92, 122, 138, 166, 169, 204, 210, 215, 218, 220, 222, 275, 320, 321, 322, 323, 324, 325, 326, 327, 328, 329, 330, 331, 332, 333].filterMap (fun i => lw_tbl[i]?) := by decide +kernel
theorem qp_wf1 : (qp_fR 1).map (qp_wfw 1) = [91, 93, 94].filterMap (fun i => lw_tbl[i]?) := by decide +kernel
theorem qp_wf2 : (qp_fR 2).map (qp_wfw 2) = [125, 137, 139, 140, 141].filterMap (fun i => lw_tbl[i]?) := by decide +kernel
theorem qp_wf3 : (qp_fR 3).map (qp_wfw 3) = [116, 124, 126, 127].filterMap (fun i => lw_tbl[i]?) := by decide +kernel
theorem qp_wf4 : (qp_fR 4).map (qp_wfw 4) = [115, 123, 199, 205, 211, 216, 219, 221, 223, 224].filterMap (fun i => lw_tbl[i]?) := by decide +kernel
theorem qp_wf5 : (qp_fR 5).map (qp_wfw 5) = [121, 165, 167, 170, 171, 172, 173, 174, 175, 176, 177].filterMap (fun i => lw_tbl[i]?) := by decide +kernel
theorem qp_wf6 : (qp_fR 6).map (qp_wfw 6) = [119, 202, 208, 213, 248, 249, 250, 251, 252, 253].filterMap (fun i => lw_tbl[i]?) := by decide +kernel
theorem qp_wf7 : (qp_fR 7).map (qp_wfw 7) = [120, 203, 209, 274, 276, 277, 278, 279].filterMap (fun i => lw_tbl[i]?) := by decide +kernel
theorem qp_wf8 : (qp_fR 8).map (qp_wfw 8) = [118, 201, 206, 212, 297, 298, 299].filterMap (fun i => lw_tbl[i]?) := by decide +kernel
theorem qp_wf9 : (qp_fR 9).map (qp_wfw 9) = [117, 168, 200, 207, 214, 217, 313, 314].filterMap (fun i => lw_tbl[i]?) := by decide +kernel
theorem qp_wf10 : (qp_fR 10).map (qp_wfw 10) = [955, 956, 957, 958, 959, 960, 961, 962, 963, 964, 965, 966, 967, 968, 969, 970, 971, 972, 973, 974, 975, 976, 977, 978, 979, 980, 981].filterMap (fun i => lw_tbl[i]?) := by decide +kernel
theorem qp_wfN : (List.range 15).all (fun o => (qp_fR o).all (fun q => decide (q.2 / 100 < 11) && decide (q.2 % 100 < qp_N (q.2 / 100)))) = true := by decide +kernel
abbrev qp_u (ci : Nat) : List Cond := u_ws (qp_R ci) (qp_T ci) (qp_N ci)
theorem qp_wl0 : qp_u 0 = [334, 336, 338, 340, 342, 344, 346, 348, 350, 352, 354, 356, 358, 360].filterMap (fun i => lw_tbl[i]?) := by decide +kernel
theorem qp_wl1 : qp_u 1 = [95, 97, 99].filterMap (fun i => lw_tbl[i]?) := by decide +kernel
theorem qp_wl2 : qp_u 2 = [142, 144, 146, 148].filterMap (fun i => lw_tbl[i]?) := by decide +kernel
theorem qp_wl3 : qp_u 3 = [128, 130, 132, 134].filterMap (fun i => lw_tbl[i]?) := by decide +kernel
theorem qp_wl4 : qp_u 4 = [225, 227, 229, 231, 233, 235, 237, 239].filterMap (fun i => lw_tbl[i]?) := by decide +kernel
theorem qp_wl5 : qp_u 5 = [178, 180, 182, 184, 186, 188, 190, 192, 194, 196].filterMap (fun i => lw_tbl[i]?) := by decide +kernel
theorem qp_wl6 : qp_u 6 = [254, 256, 258, 260, 262, 264].filterMap (fun i => lw_tbl[i]?) := by decide +kernel
theorem qp_wl7 : qp_u 7 = [280, 282, 284, 286, 288].filterMap (fun i => lw_tbl[i]?) := by decide +kernel
theorem qp_wl8 : qp_u 8 = [300, 302, 304].filterMap (fun i => lw_tbl[i]?) := by decide +kernel
theorem qp_wl9 : qp_u 9 = [315, 317].filterMap (fun i => lw_tbl[i]?) := by decide +kernel
theorem qp_wl10 : qp_u 10 = [982, 984, 986, 988, 990, 992, 994, 996, 998, 1000, 1002, 1004, 1006, 1008, 1010, 1012, 1014, 1016, 1018, 1020, 1022, 1024, 1026, 1028, 1030, 1032, 1034].filterMap (fun i => lw_tbl[i]?) := by decide +kernel
theorem qp_wi : (List.range 11).map (fun t => Cond.instantiable (qp_R t) (qp_N t)) = [75, 83, 104, 110, 152, 160, 243, 269, 292, 308, 950].filterMap (fun i => lw_tbl[i]?) := by decide +kernel
theorem qp_wz : (List.range 14).map (fun t => Cond.initialized (qp_R t)) = [59, 60, 62, 63, 64, 65, 66, 67, 68, 69, 70, 72, 73, 61].filterMap (fun i => lw_tbl[i]?) := by decide +kernel
def qp_wiw (o : Nat) (q : Nat × Nat) : Cond := bif Nat.beq (q.2 % 10) 5 then .methodLink (qp_R o) q.1 Lib.objectInit else bif Nat.beq (q.2 % 10) 6 then .methodLink (qp_R o) q.1 arraycopyName else .methodLink (qp_R o) q.1 (qp_y (q.2 / 10))
def qp_nst (q : Nat × Nat) : Bool := Nat.beq (q.2 % 10) 3 || Nat.beq (q.2 % 10) 4
theorem qp_wv0 : ((qp_iR 0).filter (fun q => !qp_nst q)).map (qp_wiw 0) = [79, 84, 105, 244, 270, 293, 309, 367, 371, 375, 379, 388, 392, 396, 404, 408, 413, 417, 429, 437, 442, 454, 455, 472, 513, 527, 541, 545, 571, 575, 576, 577, 585, 589, 593, 597, 612, 613, 620, 628, 632, 657, 661, 670, 680, 692, 697, 705, 710, 728, 758, 766, 770, 774, 778, 795, 799, 806, 814, 823, 836, 851, 869, 877, 892, 897, 917, 921, 926, 944].filterMap (fun i => lw_tbl[i]?) := by decide +kernel
theorem qp_wv1 : ((qp_iR 1).filter (fun q => !qp_nst q)).map (qp_wiw 1) = [87, 88, 383, 400, 412, 441, 446, 447, 459].filterMap (fun i => lw_tbl[i]?) := by decide +kernel
theorem qp_wv2 : ((qp_iR 2).filter (fun q => !qp_nst q)).map (qp_wiw 2) = [108, 476, 480, 484, 485, 486, 490, 494, 495, 499, 505].filterMap (fun i => lw_tbl[i]?) := by decide +kernel
theorem qp_wv3 : ((qp_iR 3).filter (fun q => !qp_nst q)).map (qp_wiw 3) = [114, 517, 518, 522, 526, 925].filterMap (fun i => lw_tbl[i]?) := by decide +kernel
theorem qp_wv4 : ((qp_iR 4).filter (fun q => !qp_nst q)).map (qp_wiw 4) = [156, 161, 531, 549, 581, 601, 617, 618, 619, 636, 640, 649, 674, 675, 714, 715, 896].filterMap (fun i => lw_tbl[i]?) := by decide +kernel
theorem qp_wv5 : ((qp_iR 5).filter (fun q => !qp_nst q)).map (qp_wiw 5) = [164, 553, 556, 557, 560, 563, 567, 568, 827].filterMap (fun i => lw_tbl[i]?) := by decide +kernel
theorem qp_wv6 : ((qp_iR 6).filter (fun q => !qp_nst q)).map (qp_wiw 6) = [247, 732, 736, 745, 749, 750, 751, 752, 753, 757].filterMap (fun i => lw_tbl[i]?) := by decide +kernel
theorem qp_wv7 : ((qp_iR 7).filter (fun q => !qp_nst q)).map (qp_wiw 7) = [273, 786, 790, 791, 792, 793, 794, 818].filterMap (fun i => lw_tbl[i]?) := by decide +kernel
theorem qp_wv8 : ((qp_iR 8).filter (fun q => !qp_nst q)).map (qp_wiw 8) = [296, 840, 844, 845, 846].filterMap (fun i => lw_tbl[i]?) := by decide +kernel
theorem qp_wv9 : ((qp_iR 9).filter (fun q => !qp_nst q)).map (qp_wiw 9) = [312, 855, 859, 860, 861, 862, 866, 881].filterMap (fun i => lw_tbl[i]?) := by decide +kernel
theorem qp_wv10 : ((qp_iR 10).filter (fun q => !qp_nst q)).map (qp_wiw 10) = [954, 1041, 1045, 1048, 1056, 1060, 1081, 1093, 1097, 1101, 1105, 1109, 1114, 1118, 1125, 1132, 1137, 1141, 1145, 1149, 1152, 1155, 1159, 1162, 1170, 1173, 1181, 1185, 1188, 1191, 1194, 1201, 1218, 1242, 1246, 1262, 1270, 1275, 1279, 1283, 1287, 1303, 1315, 1319, 1328, 1332, 1347, 1354, 1375, 1379, 1383, 1387].filterMap (fun i => lw_tbl[i]?) := by decide +kernel
theorem qp_wv11 : ((qp_iR 11).filter (fun q => !qp_nst q)).map (qp_wiw 11) = [534, 584, 604, 605, 643, 646, 739].filterMap (fun i => lw_tbl[i]?) := by decide +kernel
theorem qp_wv14 : ((qp_iR 14).filter (fun q => !qp_nst q)).map (qp_wiw 14) = [76, 363, 384, 421, 425, 433, 450, 460, 464, 468, 509, 537, 608, 624, 653, 662, 666, 676, 684, 688, 693, 701, 706, 716, 720, 724, 762, 802, 810, 819, 828, 832, 847, 873, 885, 901, 905, 909, 913, 930, 934, 938, 951, 1037, 1052, 1064, 1065, 1069, 1073, 1077, 1085, 1089, 1121, 1128, 1166, 1177, 1197, 1205, 1210, 1214, 1222, 1226, 1230, 1234, 1238, 1250, 1254, 1258, 1266, 1290, 1294, 1299, 1307, 1311, 1323, 1336, 1340, 1358, 1362, 1366, 1370, 1390, 1394, 1398].filterMap (fun i => lw_tbl[i]?) := by decide +kernel
def qp_nest : List Cond := (List.range 15).flatMap (fun o => ((qp_iR o).filter qp_nst).map (fun q => Cond.methodLinkNest (qp_R o) q.1 (qp_y (q.2 / 10)) "QueuePlaces")) ++ [.fieldLinkNest "QueuePlaces$Reader" 70 "QueuePlaces" "LETTERS" "[I"  "QueuePlaces"]
theorem qp_wn : qp_nest = [153, 782, 111, 158, 503].filterMap (fun i => lw_tbl[i]?) := by decide +kernel
theorem qp_wc0 : (qp_nR 0).map (fun q => Cond.classLink (qp_R 0) q.1 (qp_R q.2)) = [82, 103, 151, 242, 268, 291, 307].filterMap (fun i => lw_tbl[i]?) := by decide +kernel
theorem qp_wc2 : (qp_nR 2).map (fun q => Cond.classLink (qp_R 2) q.1 (qp_R q.2)) = [109].filterMap (fun i => lw_tbl[i]?) := by decide +kernel
theorem qp_wc4 : (qp_nR 4).map (fun q => Cond.classLink (qp_R 4) q.1 (qp_R q.2)) = [157, 159].filterMap (fun i => lw_tbl[i]?) := by decide +kernel
theorem qp_wc14 : (qp_nR 14).map (fun q => Cond.classLink (qp_R 14) q.1 (qp_R q.2)) = [74, 949].filterMap (fun i => lw_tbl[i]?) := by decide +kernel
theorem qp_wcN : (List.range 15).all (fun o => (qp_nR o).all (fun q => decide (q.2 < 11))) = true := by decide +kernel
theorem qp_wk0 : (qp_kR 0).map (fun q => Cond.constant (qp_R 0) q.1 q.2) = [889].filterMap (fun i => lw_tbl[i]?) := by decide +kernel
theorem qp_wk10 : (qp_kR 10).map (fun q => Cond.constant (qp_R 10) q.1 q.2) = [1298, 1318].filterMap (fun i => lw_tbl[i]?) := by decide +kernel
theorem qp_wk12 : (qp_kR 12).map (fun q => Cond.constant (qp_R 12) q.1 q.2) = [742, 743, 744].filterMap (fun i => lw_tbl[i]?) := by decide +kernel
theorem qp_wL0 : (qp_lR 0).map (fun q => Cond.constantLong (qp_R 0) q.1 q.2) = [890, 891, 942, 943].filterMap (fun i => lw_tbl[i]?) := by decide +kernel
theorem qp_wL1 : (qp_lR 1).map (fun q => Cond.constantLong (qp_R 1) q.1 q.2) = [948].filterMap (fun i => lw_tbl[i]?) := by decide +kernel
theorem qp_wL10 : (qp_lR 10).map (fun q => Cond.constantLong (qp_R 10) q.1 q.2) = [1044, 1084, 1113, 1136, 1209, 1221, 1274, 1327, 1344, 1345, 1346, 1351, 1352, 1353, 1374, 1402, 1403].filterMap (fun i => lw_tbl[i]?) := by decide +kernel
/-- a method's own words -/
def qp_stL8 : List Nat := [2, 2, 1, 2, 2, 2, 2, 2, 2, 2, 2, 0, 0, 0, 0, 0, 0, 0, 0, 0, 0, 0, 0, 0, 0, 0, 0, 0, 0, 0, 0, 0, 0, 0, 0, 0, 0, 0, 0, 0, 0, 0, 0, 0, 0, 0, 0, 0, 0, 1, 1, 0, 0, 0, 0, 1, 1, 1, 0, 1, 0, 0, 1, 0, 0, 0, 0, 1, 1, 0, 0, 0, 0, 0, 0, 0, 1, 1, 1, 0, 0, 0, 0, 0, 0, 0, 0, 0, 0, 0, 0, 0, 0, 0, 0, 0, 0, 0, 0, 1, 1, 0, 0, 0, 0, 0, 0, 0, 0, 0, 0, 0, 1, 0, 0, 0, 0, 0, 0, 0, 0, 0, 0, 0, 0, 0, 0, 1, 0, 0, 0, 0, 0, 0, 0, 0, 0, 0, 0, 0, 0, 0, 0, 0, 0, 0, 2, 0, 1, 1, 0, 0, 0, 0, 0, 0, 0, 0, 1, 0, 0, 0, 0, 0, 0, 0, 0, 1, 0, 1, 0, 0, 0, 0, 0, 1, 1, 0, 1, 0, 0, 1, 0, 0, 0, 1, 1, 1, 1, 0, 0, 0, 0, 0, 1, 0, 0, 0, 0, 0, 0, 0, 0, 0, 0, 0, 0, 0, 0, 0, 0, 1, 0, 0, 0, 0, 0, 0, 1, 0, 0, 0, 0, 0, 0, 0, 0, 0, 0, 0, 0, 0, 0, 0, 1, 0, 0, 0]
def qp_sta (mi : Nat) : Bool := Nat.beq ((qp_stL8.getD mi 0)) 1
def qp_ini (mi : Nat) : Bool := Nat.beq ((qp_stL8.getD mi 0)) 2
def qp_cw (mi : Nat) : Cond := .code (qp_y mi) (qp_b mi) (qp_mL mi) (qp_rt mi)
theorem qp_wo : [Cond.code Lib.objectInit ⟨#[0xb1]⟩ 1 none, Cond.instanceMethod Lib.objectInit] = [81, 80].filterMap (fun i => lw_tbl[i]?) := by decide +kernel
theorem qp_wa : [Cond.native arraycopyName, Cond.static arraycopyName, Cond.initialized "java/lang/System"] = [449, 448, 71].filterMap (fun i => lw_tbl[i]?) := by decide +kernel
theorem qp_wr : [Cond.arrayClass .int, Cond.arrayClass .boolean] = [102, 267].filterMap (fun i => lw_tbl[i]?) := by decide +kernel
theorem qp_wq : [Cond.laysStatic "QueuePlaces" "LETTERS" "[I"] = [504].filterMap (fun i => lw_tbl[i]?) := by decide +kernel
end
section
theorem qp_wm0 : (List.range' 0 20).map qp_cw = [78, 86, 90, 107, 113, 155, 163, 246, 272, 295, 311, 366, 370, 374, 378, 382, 387, 391, 395, 399].filterMap (fun i => lw_tbl[i]?) := by decide +kernel
theorem qp_wm1 : (List.range' 20 20).map qp_cw = [403, 407, 411, 416, 420, 424, 428, 432, 436, 440, 445, 453, 458, 463, 467, 471, 475, 479, 483, 489].filterMap (fun i => lw_tbl[i]?) := by decide +kernel
theorem qp_wm2 : (List.range' 40 20).map qp_cw = [493, 498, 502, 508, 512, 516, 521, 525, 530, 533, 536, 540, 544, 548, 552, 555, 559, 562, 566, 570].filterMap (fun i => lw_tbl[i]?) := by decide +kernel
end
section
theorem qp_wm3 : (List.range' 60 20).map qp_cw = [574, 580, 583, 588, 592, 596, 600, 603, 607, 611, 616, 623, 627, 631, 635, 639, 642, 645, 648, 652].filterMap (fun i => lw_tbl[i]?) := by decide +kernel
theorem qp_wm4 : (List.range' 80 20).map qp_cw = [656, 660, 665, 669, 673, 679, 683, 687, 691, 696, 700, 704, 709, 713, 719, 723, 727, 731, 735, 738].filterMap (fun i => lw_tbl[i]?) := by decide +kernel
theorem qp_wm5 : (List.range' 100 20).map qp_cw = [741, 748, 756, 761, 765, 769, 773, 777, 781, 785, 789, 798, 801, 805, 809, 813, 817, 822, 826, 831].filterMap (fun i => lw_tbl[i]?) := by decide +kernel
end
section
theorem qp_wm6 : (List.range' 120 20).map qp_cw = [835, 839, 843, 850, 854, 858, 865, 868, 872, 876, 880, 884, 888, 895, 900, 904, 908, 912, 916, 920].filterMap (fun i => lw_tbl[i]?) := by decide +kernel
theorem qp_wm7 : (List.range' 140 20).map qp_cw = [924, 929, 933, 937, 941, 947, 953, 1040, 1043, 1047, 1051, 1055, 1059, 1063, 1068, 1072, 1076, 1080, 1083, 1088].filterMap (fun i => lw_tbl[i]?) := by decide +kernel
theorem qp_wm8 : (List.range' 160 20).map qp_cw = [1092, 1096, 1100, 1104, 1108, 1112, 1117, 1120, 1124, 1127, 1131, 1135, 1140, 1144, 1148, 1151, 1154, 1158, 1161, 1165].filterMap (fun i => lw_tbl[i]?) := by decide +kernel
end
section
theorem qp_wm9 : (List.range' 180 20).map qp_cw = [1169, 1172, 1176, 1180, 1184, 1187, 1190, 1193, 1196, 1200, 1204, 1208, 1213, 1217, 1220, 1225, 1229, 1233, 1237, 1241].filterMap (fun i => lw_tbl[i]?) := by decide +kernel
theorem qp_wm10 : (List.range' 200 20).map qp_cw = [1245, 1249, 1253, 1257, 1261, 1265, 1269, 1273, 1278, 1282, 1286, 1289, 1293, 1297, 1302, 1306, 1310, 1314, 1317, 1322].filterMap (fun i => lw_tbl[i]?) := by decide +kernel
theorem qp_wm11 : (List.range' 220 18).map qp_cw = [1326, 1331, 1335, 1339, 1343, 1350, 1357, 1361, 1365, 1369, 1373, 1378, 1382, 1386, 1389, 1393, 1397, 1401].filterMap (fun i => lw_tbl[i]?) := by decide +kernel
end
section
theorem qp_ws0 : (List.range' 0 20).map (fun mi => bif qp_sta mi then Cond.static (qp_y mi) else Cond.instanceMethod (qp_y mi)) = [77, 85, 89, 106, 112, 154, 162, 245, 271, 294, 310, 364, 369, 372, 377, 380, 385, 390, 394, 397].filterMap (fun i => lw_tbl[i]?) := by decide +kernel
theorem qp_wx0 : ((List.range' 0 20).filter (fun mi => !qp_sta mi && !qp_ini mi)).map (fun mi => Cond.selects (qp_y mi).cls (qp_y mi) (qp_y mi)) = [365, 0, 373, 1, 381, 386, 2, 3, 398].filterMap (fun i => lw_tbl[i]?) := by decide +kernel
theorem qp_ws1 : (List.range' 20 20).map (fun mi => bif qp_sta mi then Cond.static (qp_y mi) else Cond.instanceMethod (qp_y mi)) = [401, 405, 409, 414, 419, 422, 426, 430, 434, 438, 443, 451, 456, 461, 465, 469, 473, 477, 482, 488].filterMap (fun i => lw_tbl[i]?) := by decide +kernel
theorem qp_wx1 : ((List.range' 20 20).filter (fun mi => !qp_sta mi && !qp_ini mi)).map (fun mi => Cond.selects (qp_y mi).cls (qp_y mi) (qp_y mi)) = [402, 406, 410, 415, 4, 423, 427, 431, 435, 439, 444, 452, 457, 462, 466, 470, 474, 478, 5, 6].filterMap (fun i => lw_tbl[i]?) := by decide +kernel
theorem qp_ws2 : (List.range' 40 20).map (fun mi => bif qp_sta mi then Cond.static (qp_y mi) else Cond.instanceMethod (qp_y mi)) = [492, 497, 501, 506, 510, 514, 519, 523, 528, 532, 535, 538, 542, 546, 550, 554, 558, 561, 565, 569].filterMap (fun i => lw_tbl[i]?) := by decide +kernel
theorem qp_wx2 : ((List.range' 40 20).filter (fun mi => !qp_sta mi && !qp_ini mi)).map (fun mi => Cond.selects (qp_y mi).cls (qp_y mi) (qp_y mi)) = [7, 8, 9, 507, 511, 515, 520, 524, 529, 539, 543, 547, 551, 10].filterMap (fun i => lw_tbl[i]?) := by decide +kernel
theorem qp_ws3 : (List.range' 60 20).map (fun mi => bif qp_sta mi then Cond.static (qp_y mi) else Cond.instanceMethod (qp_y mi)) = [573, 578, 582, 586, 590, 594, 598, 602, 606, 609, 614, 621, 625, 629, 633, 638, 641, 644, 647, 650].filterMap (fun i => lw_tbl[i]?) := by decide +kernel
theorem qp_wx3 : ((List.range' 60 20).filter (fun mi => !qp_sta mi && !qp_ini mi)).map (fun mi => Cond.selects (qp_y mi).cls (qp_y mi) (qp_y mi)) = [11, 579, 587, 591, 595, 599, 610, 615, 622, 626, 630, 634, 12, 651].filterMap (fun i => lw_tbl[i]?) := by decide +kernel
theorem qp_ws4 : (List.range' 80 20).map (fun mi => bif qp_sta mi then Cond.static (qp_y mi) else Cond.instanceMethod (qp_y mi)) = [654, 658, 663, 667, 671, 677, 681, 685, 689, 694, 698, 702, 707, 711, 717, 721, 725, 729, 734, 737].filterMap (fun i => lw_tbl[i]?) := by decide +kernel
theorem qp_wx4 : ((List.range' 80 20).filter (fun mi => !qp_sta mi && !qp_ini mi)).map (fun mi => Cond.selects (qp_y mi).cls (qp_y mi) (qp_y mi)) = [655, 659, 664, 668, 672, 678, 682, 686, 690, 695, 699, 703, 708, 712, 718, 722, 726, 730, 13].filterMap (fun i => lw_tbl[i]?) := by decide +kernel
theorem qp_ws5 : (List.range' 100 20).map (fun mi => bif qp_sta mi then Cond.static (qp_y mi) else Cond.instanceMethod (qp_y mi)) = [740, 747, 755, 759, 763, 768, 772, 775, 779, 784, 788, 797, 800, 803, 807, 811, 815, 820, 824, 829].filterMap (fun i => lw_tbl[i]?) := by decide +kernel
theorem qp_wx5 : ((List.range' 100 20).filter (fun mi => !qp_sta mi && !qp_ini mi)).map (fun mi => Cond.selects (qp_y mi).cls (qp_y mi) (qp_y mi)) = [14, 15, 760, 764, 16, 17, 776, 780, 18, 19, 20, 804, 808, 812, 816, 821, 825, 830].filterMap (fun i => lw_tbl[i]?) := by decide +kernel
theorem qp_ws6 : (List.range' 120 20).map (fun mi => bif qp_sta mi then Cond.static (qp_y mi) else Cond.instanceMethod (qp_y mi)) = [833, 837, 842, 848, 852, 857, 864, 867, 870, 874, 878, 882, 886, 893, 898, 902, 906, 910, 914, 919].filterMap (fun i => lw_tbl[i]?) := by decide +kernel
theorem qp_wx6 : ((List.range' 120 20).filter (fun mi => !qp_sta mi && !qp_ini mi)).map (fun mi => Cond.selects (qp_y mi).cls (qp_y mi) (qp_y mi)) = [834, 838, 21, 849, 853, 22, 23, 871, 875, 879, 883, 887, 894, 899, 903, 907, 911, 915, 24].filterMap (fun i => lw_tbl[i]?) := by decide +kernel
theorem qp_ws7 : (List.range' 140 20).map (fun mi => bif qp_sta mi then Cond.static (qp_y mi) else Cond.instanceMethod (qp_y mi)) = [922, 927, 931, 935, 939, 945, 952, 1038, 1042, 1046, 1050, 1053, 1057, 1062, 1066, 1070, 1074, 1078, 1082, 1086].filterMap (fun i => lw_tbl[i]?) := by decide +kernel
theorem qp_wx7 : ((List.range' 140 20).filter (fun mi => !qp_sta mi && !qp_ini mi)).map (fun mi => Cond.selects (qp_y mi).cls (qp_y mi) (qp_y mi)) = [923, 928, 932, 936, 940, 946, 1039, 25, 1054, 1058, 26, 1067, 1071, 1075, 1079, 1087].filterMap (fun i => lw_tbl[i]?) := by decide +kernel
theorem qp_ws8 : (List.range' 160 20).map (fun mi => bif qp_sta mi then Cond.static (qp_y mi) else Cond.instanceMethod (qp_y mi)) = [1090, 1095, 1099, 1103, 1107, 1111, 1116, 1119, 1122, 1126, 1129, 1134, 1139, 1143, 1147, 1150, 1153, 1157, 1160, 1164].filterMap (fun i => lw_tbl[i]?) := by decide +kernel
theorem qp_wx8 : ((List.range' 160 20).filter (fun mi => !qp_sta mi && !qp_ini mi)).map (fun mi => Cond.selects (qp_y mi).cls (qp_y mi) (qp_y mi)) = [1091, 27, 28, 29, 30, 31, 32, 1123, 1130, 33, 34, 35, 36, 37, 38].filterMap (fun i => lw_tbl[i]?) := by decide +kernel
theorem qp_ws9 : (List.range' 180 20).map (fun mi => bif qp_sta mi then Cond.static (qp_y mi) else Cond.instanceMethod (qp_y mi)) = [1167, 1171, 1175, 1178, 1183, 1186, 1189, 1192, 1195, 1198, 1203, 1206, 1211, 1215, 1219, 1223, 1227, 1231, 1235, 1239].filterMap (fun i => lw_tbl[i]?) := by decide +kernel
theorem qp_wx9 : ((List.range' 180 20).filter (fun mi => !qp_sta mi && !qp_ini mi)).map (fun mi => Cond.selects (qp_y mi).cls (qp_y mi) (qp_y mi)) = [1168, 39, 1179, 40, 1199, 41, 1207, 1212, 1216, 1224, 1228, 1232, 1236, 1240].filterMap (fun i => lw_tbl[i]?) := by decide +kernel
theorem qp_ws10 : (List.range' 200 20).map (fun mi => bif qp_sta mi then Cond.static (qp_y mi) else Cond.instanceMethod (qp_y mi)) = [1244, 1248, 1251, 1255, 1259, 1264, 1267, 1272, 1277, 1281, 1285, 1288, 1291, 1295, 1300, 1305, 1308, 1312, 1316, 1321].filterMap (fun i => lw_tbl[i]?) := by decide +kernel
theorem qp_wx10 : ((List.range' 200 20).filter (fun mi => !qp_sta mi && !qp_ini mi)).map (fun mi => Cond.selects (qp_y mi).cls (qp_y mi) (qp_y mi)) = [42, 43, 1252, 1256, 1260, 44, 1268, 45, 46, 47, 48, 1292, 1296, 1301, 49, 1309, 1313, 50].filterMap (fun i => lw_tbl[i]?) := by decide +kernel
theorem qp_ws11 : (List.range' 220 18).map (fun mi => bif qp_sta mi then Cond.static (qp_y mi) else Cond.instanceMethod (qp_y mi)) = [1324, 1330, 1334, 1337, 1341, 1349, 1356, 1359, 1363, 1367, 1371, 1377, 1381, 1385, 1388, 1391, 1395, 1399].filterMap (fun i => lw_tbl[i]?) := by decide +kernel
theorem qp_wx11 : ((List.range' 220 18).filter (fun mi => !qp_sta mi && !qp_ini mi)).map (fun mi => Cond.selects (qp_y mi).cls (qp_y mi) (qp_y mi)) = [1325, 51, 52, 1338, 1342, 53, 54, 1360, 1364, 1368, 1372, 55, 56, 57, 1392, 1396, 1400].filterMap (fun i => lw_tbl[i]?) := by decide +kernel
theorem qp_wy : (List.range 238).all (fun mi => decide ((qp_y mi).cls = qp_R (qp_o mi)) && decide (qp_o mi < 14) && plainFor (qp_y mi) && decide ((qp_y mi).cls ≠ "java/lang/invoke/MethodHandle" ∧ (qp_y mi).cls ≠ "java/lang/invoke/VarHandle") && decide ((parseMethodDescriptor (qp_y mi).desc).map (fun d => d.parameters.length) = some (qp_na mi)) && decide (qp_mL mi ≤ 40) && (!qp_ini mi || decide ((qp_y mi).name = "<init>"))) = true := by decide +kernel
theorem qp_wk8 : (List.range 15).all (fun o => (qp_iR o).all (fun q => match q.2 % 10 with | 0 => decide (q.2 / 10 < 238) && !qp_sta (q.2 / 10) && !qp_ini (q.2 / 10) | 1 => decide (q.2 / 10 < 238) && qp_sta (q.2 / 10) | 2 => decide (q.2 / 10 < 238) && qp_ini (q.2 / 10) && !qp_sta (q.2 / 10) && decide (qp_rt (q.2 / 10) = none) | 3 => decide (q.2 / 10 < 238) && !qp_sta (q.2 / 10) && !qp_ini (q.2 / 10) | 4 => decide (q.2 / 10 < 238) && qp_ini (q.2 / 10) && !qp_sta (q.2 / 10) && decide (qp_rt (q.2 / 10) = none) | 5 => true | 6 => true | _ => false)) = true := by decide +kernel
end
section
/-! the words, by name -/
theorem qp_mK {o x : Nat} {v : Int32} (h : qp_lk (qp_kR o) x = some v) : Cond.constant (qp_R o) x v ∈ qp_tb := by
  have hm := qp_lk_mem h
  unfold qp_kR at hm
  split at hm
  · exact qp_in _ qp_wk0 (by decide +kernel) _ (List.mem_map.mpr ⟨_, hm, rfl⟩)
  · exact qp_in _ qp_wk10 (by decide +kernel) _ (List.mem_map.mpr ⟨_, hm, rfl⟩)
  · exact qp_in _ qp_wk12 (by decide +kernel) _ (List.mem_map.mpr ⟨_, hm, rfl⟩)
  · exact absurd hm List.not_mem_nil
theorem qp_mL8 {o x : Nat} {v : Int64} (h : qp_lk (qp_lR o) x = some v) : Cond.constantLong (qp_R o) x v ∈ qp_tb := by
  have hm := qp_lk_mem h
  unfold qp_lR at hm
  split at hm
  · exact qp_in _ qp_wL0 (by decide +kernel) _ (List.mem_map.mpr ⟨_, hm, rfl⟩)
  · exact qp_in _ qp_wL1 (by decide +kernel) _ (List.mem_map.mpr ⟨_, hm, rfl⟩)
  · exact qp_in _ qp_wL10 (by decide +kernel) _ (List.mem_map.mpr ⟨_, hm, rfl⟩)
  · exact absurd hm List.not_mem_nil
theorem qp_mC {o x t : Nat} (h : qp_lk (qp_nR o) x = some t) : Cond.classLink (qp_R o) x (qp_R t) ∈ qp_tb := by
  have hm := qp_lk_mem h
  unfold qp_nR at hm
  split at hm
  · exact qp_in _ qp_wc0 (by decide +kernel) _ (List.mem_map.mpr ⟨_, hm, rfl⟩)
  · exact qp_in _ qp_wc2 (by decide +kernel) _ (List.mem_map.mpr ⟨_, hm, rfl⟩)
  · exact qp_in _ qp_wc4 (by decide +kernel) _ (List.mem_map.mpr ⟨_, hm, rfl⟩)
  · exact qp_in _ qp_wc14 (by decide +kernel) _ (List.mem_map.mpr ⟨_, hm, rfl⟩)
  · exact absurd hm List.not_mem_nil
theorem qp_mF {o x t : Nat} (h : qp_lk (qp_fR o) x = some t) : qp_wfw o (x, t) ∈ qp_tb := by
  have hm := qp_lk_mem h
  unfold qp_fR at hm
  split at hm
  · exact qp_in _ qp_wf0 (by decide +kernel) _ (List.mem_map.mpr ⟨_, hm, rfl⟩)
  · exact qp_in _ qp_wf1 (by decide +kernel) _ (List.mem_map.mpr ⟨_, hm, rfl⟩)
  · exact qp_in _ qp_wf2 (by decide +kernel) _ (List.mem_map.mpr ⟨_, hm, rfl⟩)
  · exact qp_in _ qp_wf3 (by decide +kernel) _ (List.mem_map.mpr ⟨_, hm, rfl⟩)
  · exact qp_in _ qp_wf4 (by decide +kernel) _ (List.mem_map.mpr ⟨_, hm, rfl⟩)
  · exact qp_in _ qp_wf5 (by decide +kernel) _ (List.mem_map.mpr ⟨_, hm, rfl⟩)
  · exact qp_in _ qp_wf6 (by decide +kernel) _ (List.mem_map.mpr ⟨_, hm, rfl⟩)
  · exact qp_in _ qp_wf7 (by decide +kernel) _ (List.mem_map.mpr ⟨_, hm, rfl⟩)
  · exact qp_in _ qp_wf8 (by decide +kernel) _ (List.mem_map.mpr ⟨_, hm, rfl⟩)
  · exact qp_in _ qp_wf9 (by decide +kernel) _ (List.mem_map.mpr ⟨_, hm, rfl⟩)
  · exact qp_in _ qp_wf10 (by decide +kernel) _ (List.mem_map.mpr ⟨_, hm, rfl⟩)
  · exact absurd hm List.not_mem_nil
theorem qp_mV {o x t : Nat} (h : qp_lk (qp_iR o) x = some t) (hk : qp_nst (x, t) = false) : qp_wiw o (x, t) ∈ qp_tb := by
  have hm := qp_lk_mem h
  unfold qp_iR at hm
  split at hm
  · exact qp_in _ qp_wv0 (by decide +kernel) _ (List.mem_map.mpr ⟨_, List.mem_filter.mpr ⟨hm, by rw [hk]; rfl⟩, rfl⟩)
  · exact qp_in _ qp_wv1 (by decide +kernel) _ (List.mem_map.mpr ⟨_, List.mem_filter.mpr ⟨hm, by rw [hk]; rfl⟩, rfl⟩)
  · exact qp_in _ qp_wv2 (by decide +kernel) _ (List.mem_map.mpr ⟨_, List.mem_filter.mpr ⟨hm, by rw [hk]; rfl⟩, rfl⟩)
  · exact qp_in _ qp_wv3 (by decide +kernel) _ (List.mem_map.mpr ⟨_, List.mem_filter.mpr ⟨hm, by rw [hk]; rfl⟩, rfl⟩)
  · exact qp_in _ qp_wv4 (by decide +kernel) _ (List.mem_map.mpr ⟨_, List.mem_filter.mpr ⟨hm, by rw [hk]; rfl⟩, rfl⟩)
  · exact qp_in _ qp_wv5 (by decide +kernel) _ (List.mem_map.mpr ⟨_, List.mem_filter.mpr ⟨hm, by rw [hk]; rfl⟩, rfl⟩)
  · exact qp_in _ qp_wv6 (by decide +kernel) _ (List.mem_map.mpr ⟨_, List.mem_filter.mpr ⟨hm, by rw [hk]; rfl⟩, rfl⟩)
  · exact qp_in _ qp_wv7 (by decide +kernel) _ (List.mem_map.mpr ⟨_, List.mem_filter.mpr ⟨hm, by rw [hk]; rfl⟩, rfl⟩)
  · exact qp_in _ qp_wv8 (by decide +kernel) _ (List.mem_map.mpr ⟨_, List.mem_filter.mpr ⟨hm, by rw [hk]; rfl⟩, rfl⟩)
  · exact qp_in _ qp_wv9 (by decide +kernel) _ (List.mem_map.mpr ⟨_, List.mem_filter.mpr ⟨hm, by rw [hk]; rfl⟩, rfl⟩)
  · exact qp_in _ qp_wv10 (by decide +kernel) _ (List.mem_map.mpr ⟨_, List.mem_filter.mpr ⟨hm, by rw [hk]; rfl⟩, rfl⟩)
  · exact qp_in _ qp_wv11 (by decide +kernel) _ (List.mem_map.mpr ⟨_, List.mem_filter.mpr ⟨hm, by rw [hk]; rfl⟩, rfl⟩)
  · exact qp_in _ qp_wv14 (by decide +kernel) _ (List.mem_map.mpr ⟨_, List.mem_filter.mpr ⟨hm, by rw [hk]; rfl⟩, rfl⟩)
  · exact absurd hm List.not_mem_nil
theorem qp_lt15 {α : Type} {f : Nat → List (Nat × α)} (h0 : ∀ o, 15 ≤ o → f o = []) {P : Nat → Nat × α → Bool} (hP : (List.range 15).all (fun o => (f o).all (P o)) = true) {o x : Nat} {t : α} (h : qp_lk (f o) x = some t) : P o (x, t) = true := by
  by_cases ho : o < 15
  · exact List.all_eq_true.mp (List.all_eq_true.mp hP o (List.mem_range.mpr ho)) _ (qp_lk_mem h)
  · rw [h0 o (Nat.le_of_not_lt ho)] at h
    cases h
theorem qp_fR_0 : ∀ o, 15 ≤ o → qp_fR o = [] := by
  intro o ho
  unfold qp_fR
  split <;> first | omega | rfl
theorem qp_iR_0 : ∀ o, 15 ≤ o → qp_iR o = [] := by
  intro o ho
  unfold qp_iR
  split <;> first | omega | rfl
theorem qp_nR_0 : ∀ o, 15 ≤ o → qp_nR o = [] := by
  intro o ho
  unfold qp_nR
  split <;> first | omega | rfl
theorem qp_mFN {o x t : Nat} (h : qp_lk (qp_fR o) x = some t) : t / 100 < 11 ∧ t % 100 < qp_N (t / 100) := by
  have h1 := qp_lt15 qp_fR_0 (P := fun _ q => decide (q.2 / 100 < 11) && decide (q.2 % 100 < qp_N (q.2 / 100))) qp_wfN h
  simpa using h1
theorem qp_mCN {o x t : Nat} (h : qp_lk (qp_nR o) x = some t) : t < 11 := by
  have h1 := qp_lt15 qp_nR_0 (P := fun _ q => decide (q.2 < 11)) qp_wcN h
  simpa using h1
theorem qp_mU {ci : Nat} (h : ci < 11) : ∀ w ∈ qp_u ci, w ∈ qp_tb := by
  rcases (by omega : ci = 0 ∨ ci = 1 ∨ ci = 2 ∨ ci = 3 ∨ ci = 4 ∨ ci = 5 ∨ ci = 6 ∨ ci = 7 ∨ ci = 8 ∨ ci = 9 ∨ ci = 10) with rfl | rfl | rfl | rfl | rfl | rfl | rfl | rfl | rfl | rfl | rfl
  · exact qp_in _ qp_wl0 (by decide +kernel)
  · exact qp_in _ qp_wl1 (by decide +kernel)
  · exact qp_in _ qp_wl2 (by decide +kernel)
  · exact qp_in _ qp_wl3 (by decide +kernel)
  · exact qp_in _ qp_wl4 (by decide +kernel)
  · exact qp_in _ qp_wl5 (by decide +kernel)
  · exact qp_in _ qp_wl6 (by decide +kernel)
  · exact qp_in _ qp_wl7 (by decide +kernel)
  · exact qp_in _ qp_wl8 (by decide +kernel)
  · exact qp_in _ qp_wl9 (by decide +kernel)
  · exact qp_in _ qp_wl10 (by decide +kernel)
theorem qp_mI {t : Nat} (h : t < 11) : Cond.instantiable (qp_R t) (qp_N t) ∈ qp_tb := qp_in _ qp_wi (by decide +kernel) _ (List.mem_map.mpr ⟨t, List.mem_range.mpr h, rfl⟩)
theorem qp_mZ {t : Nat} (h : t < 14) : Cond.initialized (qp_R t) ∈ qp_tb := qp_in _ qp_wz (by decide +kernel) _ (List.mem_map.mpr ⟨t, List.mem_range.mpr h, rfl⟩)
theorem qp_mO1 : Cond.code Lib.objectInit ⟨#[0xb1]⟩ 1 none ∈ qp_tb := qp_in _ qp_wo (by decide +kernel) _ List.mem_cons_self
theorem qp_mO2 : Cond.instanceMethod Lib.objectInit ∈ qp_tb := qp_in _ qp_wo (by decide +kernel) _ (List.mem_cons_of_mem _ List.mem_cons_self)
theorem qp_mA1 : Cond.arrayClass .int ∈ qp_tb := qp_in _ qp_wr (by decide +kernel) _ List.mem_cons_self
theorem qp_mA2 : Cond.arrayClass .boolean ∈ qp_tb := qp_in _ qp_wr (by decide +kernel) _ (List.mem_cons_of_mem _ List.mem_cons_self)
theorem qp_mN1 : Cond.native arraycopyName ∈ qp_tb := qp_in _ qp_wa (by decide +kernel) _ List.mem_cons_self
theorem qp_mN2 : Cond.static arraycopyName ∈ qp_tb := qp_in _ qp_wa (by decide +kernel) _ (List.mem_cons_of_mem _ List.mem_cons_self)
theorem qp_mN3 : Cond.initialized "java/lang/System" ∈ qp_tb := qp_in _ qp_wa (by decide +kernel) _ (List.mem_cons_of_mem _ (List.mem_cons_of_mem _ List.mem_cons_self))
theorem qp_mW {mi : Nat} (h : mi < 238) : qp_cw mi ∈ qp_tb := by
  rcases (by omega : (0 ≤ mi ∧ mi < 20) ∨ (20 ≤ mi ∧ mi < 40) ∨ (40 ≤ mi ∧ mi < 60) ∨ (60 ≤ mi ∧ mi < 80) ∨ (80 ≤ mi ∧ mi < 100) ∨ (100 ≤ mi ∧ mi < 120) ∨ (120 ≤ mi ∧ mi < 140) ∨ (140 ≤ mi ∧ mi < 160) ∨ (160 ≤ mi ∧ mi < 180) ∨ (180 ≤ mi ∧ mi < 200) ∨ (200 ≤ mi ∧ mi < 220) ∨ (220 ≤ mi ∧ mi < 238)) with h1 | h1 | h1 | h1 | h1 | h1 | h1 | h1 | h1 | h1 | h1 | h1
  · exact qp_in _ qp_wm0 (by decide +kernel) _ (List.mem_map.mpr ⟨mi, List.mem_range'_1.mpr ⟨h1.1, by omega⟩, rfl⟩)
  · exact qp_in _ qp_wm1 (by decide +kernel) _ (List.mem_map.mpr ⟨mi, List.mem_range'_1.mpr ⟨h1.1, by omega⟩, rfl⟩)
  · exact qp_in _ qp_wm2 (by decide +kernel) _ (List.mem_map.mpr ⟨mi, List.mem_range'_1.mpr ⟨h1.1, by omega⟩, rfl⟩)
  · exact qp_in _ qp_wm3 (by decide +kernel) _ (List.mem_map.mpr ⟨mi, List.mem_range'_1.mpr ⟨h1.1, by omega⟩, rfl⟩)
  · exact qp_in _ qp_wm4 (by decide +kernel) _ (List.mem_map.mpr ⟨mi, List.mem_range'_1.mpr ⟨h1.1, by omega⟩, rfl⟩)
  · exact qp_in _ qp_wm5 (by decide +kernel) _ (List.mem_map.mpr ⟨mi, List.mem_range'_1.mpr ⟨h1.1, by omega⟩, rfl⟩)
  · exact qp_in _ qp_wm6 (by decide +kernel) _ (List.mem_map.mpr ⟨mi, List.mem_range'_1.mpr ⟨h1.1, by omega⟩, rfl⟩)
  · exact qp_in _ qp_wm7 (by decide +kernel) _ (List.mem_map.mpr ⟨mi, List.mem_range'_1.mpr ⟨h1.1, by omega⟩, rfl⟩)
  · exact qp_in _ qp_wm8 (by decide +kernel) _ (List.mem_map.mpr ⟨mi, List.mem_range'_1.mpr ⟨h1.1, by omega⟩, rfl⟩)
  · exact qp_in _ qp_wm9 (by decide +kernel) _ (List.mem_map.mpr ⟨mi, List.mem_range'_1.mpr ⟨h1.1, by omega⟩, rfl⟩)
  · exact qp_in _ qp_wm10 (by decide +kernel) _ (List.mem_map.mpr ⟨mi, List.mem_range'_1.mpr ⟨h1.1, by omega⟩, rfl⟩)
  · exact qp_in _ qp_wm11 (by decide +kernel) _ (List.mem_map.mpr ⟨mi, List.mem_range'_1.mpr ⟨h1.1, by omega⟩, rfl⟩)
theorem qp_mS {mi : Nat} (h : mi < 238) : (bif qp_sta mi then Cond.static (qp_y mi) else Cond.instanceMethod (qp_y mi)) ∈ qp_tb := by
  rcases (by omega : (0 ≤ mi ∧ mi < 20) ∨ (20 ≤ mi ∧ mi < 40) ∨ (40 ≤ mi ∧ mi < 60) ∨ (60 ≤ mi ∧ mi < 80) ∨ (80 ≤ mi ∧ mi < 100) ∨ (100 ≤ mi ∧ mi < 120) ∨ (120 ≤ mi ∧ mi < 140) ∨ (140 ≤ mi ∧ mi < 160) ∨ (160 ≤ mi ∧ mi < 180) ∨ (180 ≤ mi ∧ mi < 200) ∨ (200 ≤ mi ∧ mi < 220) ∨ (220 ≤ mi ∧ mi < 238)) with h1 | h1 | h1 | h1 | h1 | h1 | h1 | h1 | h1 | h1 | h1 | h1
  · exact qp_in _ qp_ws0 (by decide +kernel) _ (List.mem_map.mpr ⟨mi, List.mem_range'_1.mpr ⟨h1.1, by omega⟩, rfl⟩)
  · exact qp_in _ qp_ws1 (by decide +kernel) _ (List.mem_map.mpr ⟨mi, List.mem_range'_1.mpr ⟨h1.1, by omega⟩, rfl⟩)
  · exact qp_in _ qp_ws2 (by decide +kernel) _ (List.mem_map.mpr ⟨mi, List.mem_range'_1.mpr ⟨h1.1, by omega⟩, rfl⟩)
  · exact qp_in _ qp_ws3 (by decide +kernel) _ (List.mem_map.mpr ⟨mi, List.mem_range'_1.mpr ⟨h1.1, by omega⟩, rfl⟩)
  · exact qp_in _ qp_ws4 (by decide +kernel) _ (List.mem_map.mpr ⟨mi, List.mem_range'_1.mpr ⟨h1.1, by omega⟩, rfl⟩)
  · exact qp_in _ qp_ws5 (by decide +kernel) _ (List.mem_map.mpr ⟨mi, List.mem_range'_1.mpr ⟨h1.1, by omega⟩, rfl⟩)
  · exact qp_in _ qp_ws6 (by decide +kernel) _ (List.mem_map.mpr ⟨mi, List.mem_range'_1.mpr ⟨h1.1, by omega⟩, rfl⟩)
  · exact qp_in _ qp_ws7 (by decide +kernel) _ (List.mem_map.mpr ⟨mi, List.mem_range'_1.mpr ⟨h1.1, by omega⟩, rfl⟩)
  · exact qp_in _ qp_ws8 (by decide +kernel) _ (List.mem_map.mpr ⟨mi, List.mem_range'_1.mpr ⟨h1.1, by omega⟩, rfl⟩)
  · exact qp_in _ qp_ws9 (by decide +kernel) _ (List.mem_map.mpr ⟨mi, List.mem_range'_1.mpr ⟨h1.1, by omega⟩, rfl⟩)
  · exact qp_in _ qp_ws10 (by decide +kernel) _ (List.mem_map.mpr ⟨mi, List.mem_range'_1.mpr ⟨h1.1, by omega⟩, rfl⟩)
  · exact qp_in _ qp_ws11 (by decide +kernel) _ (List.mem_map.mpr ⟨mi, List.mem_range'_1.mpr ⟨h1.1, by omega⟩, rfl⟩)
theorem qp_mX {mi : Nat} (h : mi < 238) (h2 : qp_sta mi = false) (h3 : qp_ini mi = false) : Cond.selects (qp_y mi).cls (qp_y mi) (qp_y mi) ∈ qp_tb := by
  rcases (by omega : (0 ≤ mi ∧ mi < 20) ∨ (20 ≤ mi ∧ mi < 40) ∨ (40 ≤ mi ∧ mi < 60) ∨ (60 ≤ mi ∧ mi < 80) ∨ (80 ≤ mi ∧ mi < 100) ∨ (100 ≤ mi ∧ mi < 120) ∨ (120 ≤ mi ∧ mi < 140) ∨ (140 ≤ mi ∧ mi < 160) ∨ (160 ≤ mi ∧ mi < 180) ∨ (180 ≤ mi ∧ mi < 200) ∨ (200 ≤ mi ∧ mi < 220) ∨ (220 ≤ mi ∧ mi < 238)) with h1 | h1 | h1 | h1 | h1 | h1 | h1 | h1 | h1 | h1 | h1 | h1
  · exact qp_in _ qp_wx0 (by decide +kernel) _ (List.mem_map.mpr ⟨mi, List.mem_filter.mpr ⟨List.mem_range'_1.mpr ⟨h1.1, by omega⟩, by rw [h2, h3]; rfl⟩, rfl⟩)
  · exact qp_in _ qp_wx1 (by decide +kernel) _ (List.mem_map.mpr ⟨mi, List.mem_filter.mpr ⟨List.mem_range'_1.mpr ⟨h1.1, by omega⟩, by rw [h2, h3]; rfl⟩, rfl⟩)
  · exact qp_in _ qp_wx2 (by decide +kernel) _ (List.mem_map.mpr ⟨mi, List.mem_filter.mpr ⟨List.mem_range'_1.mpr ⟨h1.1, by omega⟩, by rw [h2, h3]; rfl⟩, rfl⟩)
  · exact qp_in _ qp_wx3 (by decide +kernel) _ (List.mem_map.mpr ⟨mi, List.mem_filter.mpr ⟨List.mem_range'_1.mpr ⟨h1.1, by omega⟩, by rw [h2, h3]; rfl⟩, rfl⟩)
  · exact qp_in _ qp_wx4 (by decide +kernel) _ (List.mem_map.mpr ⟨mi, List.mem_filter.mpr ⟨List.mem_range'_1.mpr ⟨h1.1, by omega⟩, by rw [h2, h3]; rfl⟩, rfl⟩)
  · exact qp_in _ qp_wx5 (by decide +kernel) _ (List.mem_map.mpr ⟨mi, List.mem_filter.mpr ⟨List.mem_range'_1.mpr ⟨h1.1, by omega⟩, by rw [h2, h3]; rfl⟩, rfl⟩)
  · exact qp_in _ qp_wx6 (by decide +kernel) _ (List.mem_map.mpr ⟨mi, List.mem_filter.mpr ⟨List.mem_range'_1.mpr ⟨h1.1, by omega⟩, by rw [h2, h3]; rfl⟩, rfl⟩)
  · exact qp_in _ qp_wx7 (by decide +kernel) _ (List.mem_map.mpr ⟨mi, List.mem_filter.mpr ⟨List.mem_range'_1.mpr ⟨h1.1, by omega⟩, by rw [h2, h3]; rfl⟩, rfl⟩)
  · exact qp_in _ qp_wx8 (by decide +kernel) _ (List.mem_map.mpr ⟨mi, List.mem_filter.mpr ⟨List.mem_range'_1.mpr ⟨h1.1, by omega⟩, by rw [h2, h3]; rfl⟩, rfl⟩)
  · exact qp_in _ qp_wx9 (by decide +kernel) _ (List.mem_map.mpr ⟨mi, List.mem_filter.mpr ⟨List.mem_range'_1.mpr ⟨h1.1, by omega⟩, by rw [h2, h3]; rfl⟩, rfl⟩)
  · exact qp_in _ qp_wx10 (by decide +kernel) _ (List.mem_map.mpr ⟨mi, List.mem_filter.mpr ⟨List.mem_range'_1.mpr ⟨h1.1, by omega⟩, by rw [h2, h3]; rfl⟩, rfl⟩)
  · exact qp_in _ qp_wx11 (by decide +kernel) _ (List.mem_map.mpr ⟨mi, List.mem_filter.mpr ⟨List.mem_range'_1.mpr ⟨h1.1, by omega⟩, by rw [h2, h3]; rfl⟩, rfl⟩)
theorem qp_mY {mi : Nat} (h : mi < 238) : (qp_y mi).cls = qp_R (qp_o mi) ∧ qp_o mi < 14 ∧ plainFor (qp_y mi) = true ∧ ((qp_y mi).cls ≠ "java/lang/invoke/MethodHandle" ∧ (qp_y mi).cls ≠ "java/lang/invoke/VarHandle") ∧ (parseMethodDescriptor (qp_y mi).desc).map (fun d => d.parameters.length) = some (qp_na mi) ∧ qp_mL mi ≤ 40 ∧ (qp_ini mi = true → (qp_y mi).name = "<init>") := by
  have h1 := List.all_eq_true.mp qp_wy mi (List.mem_range.mpr h)
  simp only [Bool.and_eq_true, decide_eq_true_eq, Bool.or_eq_true, Bool.not_eq_true'] at h1
  obtain ⟨⟨⟨⟨⟨⟨a1, a2⟩, a3⟩, a4⟩, a5⟩, a6⟩, a7⟩ := h1
  exact ⟨a1, a2, a3, a4, a5, a6, fun q => a7.elim (fun z => absurd (q.symm.trans z) (by decide)) id⟩
theorem qp_hty : ∀ ci, ci < 11 → ∀ k, k < qp_N ci → parseFieldDescriptor (qp_T ci k).2.2.1 = some (qp_ty ci k) := by decide +kernel
theorem qp_hnm : ∀ ci, ci < 11 → ∀ a, a < qp_N ci → ∀ b, b < qp_N ci → a ≠ b → (qp_T ci a).2.1 ≠ (qp_T ci b).2.1 := by decide +kernel
theorem qp_hfin : ∀ ci, ci < 11 → ∀ k, k < qp_N ci → (qp_T ci k).2.2.2 = qp_fin ci k := by decide +kernel
def qp_isr : FieldType → Bool
  | .object _ => true
  | .array _ => true
  | _ => false
theorem qp_hft : ∀ ci, ci < 11 → ∀ k, k < qp_N ci → (match qp_ft ci k with | 0 => decide (qp_ty ci k = .int) | 1 => decide (qp_ty ci k = .long) | 2 => qp_isr (qp_ty ci k) | _ => false) = true := by decide +kernel
end
section
/-! THE PROGRAM AS A FUNCTION: a memory of numbered cells, and what one instruction makes of a frame (pc, locals, stack, memory) -/
/-- ints, longs, references by (cell, place); of a cell its kind (a class, 50 int[], 51 boolean[]) and its length; how many cells; how many slots -/
abbrev qp_M : Type := (Nat → Nat → Int32) × (Nat → Nat → Int64) × (Nat → Nat → Option Nat) × (Nat → Nat × Nat) × Nat × Nat
abbrev qp_C : Type := Nat × List (Option Value) × List Value × qp_M
def qp_up {α : Type} (f : Nat → Nat → α) (k j : Nat) (v : α) : Nat → Nat → α := fun k' j' => bif Nat.beq k k' && Nat.beq j j' then v else f k' j'
def qp_up1 {α : Type} (f : Nat → α) (k : Nat) (v : α) : Nat → α := fun k' => bif Nat.beq k k' then v else f k'
/-- a field's value -/
def qp_get (M : qp_M) (ci r k : Nat) : Value := match qp_ft ci k with
  | 0 => .int (M.1 r k)
  | 1 => .long (M.2.1 r k)
  | _ => va_rf (M.2.2.1 r k)
def qp_put (M : qp_M) (ci r k : Nat) (v : Value) : Option qp_M := match qp_ft ci k, v with
  | 0, .int x => some (qp_up M.1 r k x, M.2)
  | 1, .long x => some (M.1, qp_up M.2.1 r k x, M.2.2)
  | 2, .ref q => some (M.1, M.2.1, qp_up M.2.2.1 r k (some q), M.2.2.2)
  | _, _ => none
def qp_setN {α : Type} : List α → Nat → α → List α
  | [], _, _ => []
  | _ :: t, 0, v => v :: t
  | a :: t, n + 1, v => a :: qp_setN t n v
def qp_len {α : Type} : List α → Nat
  | [] => 0
  | _ :: t => Nat.succ (qp_len t)
/-- the locals behind a store: a long that is cut in two is gone -/
def qp_cut (L : List (Option Value)) : Nat → List (Option Value)
  | 0 => L
  | k + 1 => match qp_nth L k with
    | some (some (.long _)) => qp_setN L k none
    | some (some (.double _)) => qp_setN L k none
    | _ => L
def qp_sto (L : List (Option Value)) (j : Nat) (v : Value) : List (Option Value) := qp_setN (qp_cut L j) j (some v)
def qp_stoL (L : List (Option Value)) (j : Nat) (v : Value) : List (Option Value) := qp_setN (qp_setN (qp_cut L j) j (some v)) (j + 1) none
abbrev qp_S : Type := Option (Option Prop × qp_C)
def qp_ldI (j n : Nat) (c : qp_C) : qp_S := match qp_nth c.2.1 j with
  | some (some (.int x)) => some (none, c.1 + n, c.2.1, .int x :: c.2.2.1, c.2.2.2)
  | _ => none
def qp_ldL (j n : Nat) (c : qp_C) : qp_S := match qp_nth c.2.1 j with
  | some (some (.long x)) => some (none, c.1 + n, c.2.1, .long x :: c.2.2.1, c.2.2.2)
  | _ => none
def qp_ldR (j n : Nat) (c : qp_C) : qp_S := match qp_nth c.2.1 j with
  | some (some (.ref x)) => some (none, c.1 + n, c.2.1, .ref x :: c.2.2.1, c.2.2.2)
  | _ => none
def qp_stI (j n : Nat) (c : qp_C) : qp_S := match c.2.2.1 with
  | .int x :: st => bif Nat.blt j (qp_len c.2.1) then some (none, c.1 + n, qp_sto c.2.1 j (.int x), st, c.2.2.2) else none
  | _ => none
def qp_stL (j n : Nat) (c : qp_C) : qp_S := match c.2.2.1 with
  | .long x :: st => bif Nat.blt (j + 1) (qp_len c.2.1) then some (none, c.1 + n, qp_stoL c.2.1 j (.long x), st, c.2.2.2) else none
  | _ => none
def qp_stR (j n : Nat) (c : qp_C) : qp_S := match c.2.2.1 with
  | .ref x :: st => bif Nat.blt j (qp_len c.2.1) then some (none, c.1 + n, qp_sto c.2.1 j (.ref x), st, c.2.2.2) else none
  | _ => none
def qp_two (f : Int32 → Int32 → Int32) (p : Int32 → Int32 → Option Prop) (c : qp_C) : qp_S := match c.2.2.1 with
  | .int y :: .int x :: st => some (p x y, c.1 + 1, c.2.1, .int (f x y) :: st, c.2.2.2)
  | _ => none
def qp_twoL (f : Int64 → Int64 → Int64) (p : Int64 → Int64 → Option Prop) (c : qp_C) : qp_S := match c.2.2.1 with
  | .long y :: .long x :: st => some (p x y, c.1 + 1, c.2.1, .long (f x y) :: st, c.2.2.2)
  | _ => none
def qp_psh (v : Value) (n : Nat) (c : qp_C) : qp_S := some (none, c.1 + n, c.2.1, v :: c.2.2.1, c.2.2.2)
/-- the letters (a static array) stand as cell 1000 -/
def qp_let (j : Nat) : Int32 := match j with
  | 0 => 112
  | 1 => 115
  | 2 => 99
  | 3 => 117
  | 4 => 103
  | _ => 111
def qp_aldI (c : qp_C) : qp_S := match c.2.2.1 with
  | .int i :: .ref r :: st => bif Nat.beq r 1000 then some (some (vp_in i 6), c.1 + 1, c.2.1, .int (qp_let i.toNatClampNeg) :: st, c.2.2.2)
      else bif Nat.blt r c.2.2.2.2.2.2.2.1 && Nat.beq (c.2.2.2.2.2.2.1 r).1 50 then some (some (vp_in i (c.2.2.2.2.2.2.1 r).2), c.1 + 1, c.2.1, .int (c.2.2.2.1 r i.toNatClampNeg) :: st, c.2.2.2) else none
  | _ => none
def qp_aldB (c : qp_C) : qp_S := match c.2.2.1 with
  | .int i :: .ref r :: st => bif Nat.blt r c.2.2.2.2.2.2.2.1 && Nat.beq (c.2.2.2.2.2.2.1 r).1 51 then some (some (vp_in i (c.2.2.2.2.2.2.1 r).2), c.1 + 1, c.2.1, .int (c.2.2.2.1 r i.toNatClampNeg) :: st, c.2.2.2) else none
  | _ => none
def qp_astI (c : qp_C) : qp_S := match c.2.2.1 with
  | .int x :: .int i :: .ref r :: st => bif Nat.blt r c.2.2.2.2.2.2.2.1 && Nat.beq (c.2.2.2.2.2.2.1 r).1 50 then some (some (vp_in i (c.2.2.2.2.2.2.1 r).2), c.1 + 1, c.2.1, st, (qp_up c.2.2.2.1 r i.toNatClampNeg x, c.2.2.2.2)) else none
  | _ => none
def qp_astB (c : qp_C) : qp_S := match c.2.2.1 with
  | .int x :: .int i :: .ref r :: st => bif Nat.blt r c.2.2.2.2.2.2.2.1 && Nat.beq (c.2.2.2.2.2.2.1 r).1 51 then some (some (vp_in i (c.2.2.2.2.2.2.1 r).2 ∧ vp_nar .boolean x = x), c.1 + 1, c.2.1, st, (qp_up c.2.2.2.1 r i.toNatClampNeg x, c.2.2.2.2)) else none
  | _ => none
def qp_aln (c : qp_C) : qp_S := match c.2.2.1 with
  | .ref r :: st => bif Nat.beq r 1000 then some (none, c.1 + 1, c.2.1, .int 6 :: st, c.2.2.2)
      else bif Nat.blt r c.2.2.2.2.2.2.2.1 && Nat.ble 50 (c.2.2.2.2.2.2.1 r).1 then some (none, c.1 + 1, c.2.1, .int (Int32.ofNat (c.2.2.2.2.2.2.1 r).2) :: st, c.2.2.2) else none
  | _ => none
def qp_gtf (t : Nat) (c : qp_C) : qp_S := match c.2.2.1 with
  | .ref r :: st => bif Nat.blt r c.2.2.2.2.2.2.2.1 && (Nat.beq (c.2.2.2.2.2.2.1 r).1 (t / 100) && Nat.blt (t % 100) (c.2.2.2.2.2.2.1 r).2) then some (none, c.1 + 3, c.2.1, qp_get c.2.2.2 (t / 100) r (t % 100) :: st, c.2.2.2) else none
  | _ => none
def qp_ptf (o : Nat) (ini : Bool) (t : Nat) (c : qp_C) : qp_S := match c.2.2.1 with
  | v :: .ref r :: st => bif Nat.blt r c.2.2.2.2.2.2.2.1 && (Nat.beq (c.2.2.2.2.2.2.1 r).1 (t / 100) && (Nat.blt (t % 100) (c.2.2.2.2.2.2.1 r).2 && ((ini && Nat.beq (t / 100) o) || !qp_fin (t / 100) (t % 100)))) then (match qp_put c.2.2.2 (t / 100) r (t % 100) v with
      | some M => some (none, c.1 + 3, c.2.1, st, M)
      | none => none) else none
  | _ => none
/-- a new cell: its kind and length; the room that it must fit in -/
def qp_mk1 (M : qp_M) (tag n : Nat) : qp_M := (fun k j => bif Nat.beq M.2.2.2.2.1 k then 0 else M.1 k j, fun k j => bif Nat.beq M.2.2.2.2.1 k then 0 else M.2.1 k j, fun k j => bif Nat.beq M.2.2.2.2.1 k then none else M.2.2.1 k j, qp_up1 M.2.2.2.1 M.2.2.2.2.1 (tag, n), M.2.2.2.2.1 + 1, M.2.2.2.2.2 + n)
def qp_fit (lim : Nat × Nat) (M : qp_M) : Bool := Nat.ble M.2.2.2.2.1 lim.1 && Nat.ble M.2.2.2.2.2 lim.2 && Nat.ble M.2.2.2.2.1 900
/-- a reference that is one: of a cell that is there, or the letters -/
def qp_kn (n : Nat) : Value → Bool
  | .ref r => Nat.blt r n || Nat.beq r 1000
  | _ => true
/-- no reference leads to a cell that is not there yet -/
def qp_knw (c : qp_C) : Bool := c.2.1.all (fun x => match x with | some v => qp_kn c.2.2.2.2.2.2.2.1 v | none => true) && c.2.2.1.all (qp_kn c.2.2.2.2.2.2.2.1) && (List.range c.2.2.2.2.2.2.2.1).all (fun r => bif (Nat.beq (c.2.2.2.2.2.2.1 r).1 50 || Nat.beq (c.2.2.2.2.2.2.1 r).1 51) then true else (List.range (c.2.2.2.2.2.2.1 r).2).all (fun k => qp_kn c.2.2.2.2.2.2.2.1 (qp_get c.2.2.2 (c.2.2.2.2.2.2.1 r).1 r k)))
def qp_cat : List Value → Nat
  | [] => 0
  | v :: t => v.category + qp_cat t
def qp_nw (lim : Nat × Nat) (t : Nat) (c : qp_C) : qp_S := some (some ((qp_fit lim (qp_mk1 c.2.2.2 t (qp_N t)) && qp_knw c) = true), c.1 + 3, c.2.1, .ref c.2.2.2.2.2.2.2.1 :: c.2.2.1, qp_mk1 c.2.2.2 t (qp_N t))
def qp_nwa (lim : Nat × Nat) (tag : Nat) (c : qp_C) : qp_S := match c.2.2.1 with
  | .int n :: st => some (some (¬ n < 0 ∧ n.toNatClampNeg ≤ 100000 ∧ (qp_fit lim (qp_mk1 c.2.2.2 tag n.toNatClampNeg) && qp_knw c) = true), c.1 + 2, c.2.1, .ref c.2.2.2.2.2.2.2.1 :: st, qp_mk1 c.2.2.2 tag n.toNatClampNeg)
  | _ => none
def qp_swt (df lo hi : Int) (offs : Array Int) (pc : Nat) (x : Int32) : Nat := if x.toInt < lo ∨ hi < x.toInt then ((pc : Int) + df).toNat else ((pc : Int) + offs.getD (x.toInt - lo).toNat 0).toNat
/-- a step that neither branches, calls nor returns: what must hold for it, and the frame behind it -/
def qp_step (lim : Nat × Nat) (o : Nat) (ini : Bool) (i : Instr) (v : Int32) (t : Nat) (c : qp_C) : qp_S := match i with
  | .iconst _ => qp_psh (.int v) 1 c
  | .bipush _ => qp_psh (.int v) 2 c
  | .sipush _ => qp_psh (.int v) 3 c
  | .ldc _ => qp_psh (.int v) 2 c
  | .ldc_w _ => qp_psh (.int v) 3 c
  | .lconst n => qp_psh (.long (bif Nat.beq n.val 0 then 0 else 1)) 1 c
  | .ldc2_w ix => match qp_lk (qp_lR o) ix with
    | some w => qp_psh (.long w) 3 c
    | none => none
  | .iload j => qp_ldI j 2 c
  | .iload_n j => qp_ldI j.val 1 c
  | .lload j => qp_ldL j 2 c
  | .lload_n j => qp_ldL j.val 1 c
  | .aload j => qp_ldR j 2 c
  | .aload_n j => qp_ldR j.val 1 c
  | .istore j => qp_stI j 2 c
  | .istore_n j => qp_stI j.val 1 c
  | .lstore j => qp_stL j 2 c
  | .lstore_n j => qp_stL j.val 1 c
  | .astore j => qp_stR j 2 c
  | .astore_n j => qp_stR j.val 1 c
  | .iinc j _ => match qp_nth c.2.1 j with
    | some (some (.int x)) => some (none, c.1 + 3, qp_sto c.2.1 j (.int (x + v)), c.2.2.1, c.2.2.2)
    | _ => none
  | .dup => match c.2.2.1 with
    | .int x :: st => some (none, c.1 + 1, c.2.1, .int x :: .int x :: st, c.2.2.2)
    | .ref x :: st => some (none, c.1 + 1, c.2.1, .ref x :: .ref x :: st, c.2.2.2)
    | _ => none
  | .dup2 => match c.2.2.1 with
    | .int x :: .ref y :: st => some (none, c.1 + 1, c.2.1, .int x :: .ref y :: .int x :: .ref y :: st, c.2.2.2)
    | _ => none
  | .pop => match c.2.2.1 with
    | .int _ :: st => some (none, c.1 + 1, c.2.1, st, c.2.2.2)
    | _ => none
  | .iadd => qp_two (fun x y => x + y) (fun _ _ => none) c
  | .isub => qp_two (fun x y => x - y) (fun _ _ => none) c
  | .imul => qp_two (fun x y => x * y) (fun _ _ => none) c
  | .iand => qp_two (fun x y => x &&& y) (fun _ _ => none) c
  | .ior => qp_two (fun x y => x ||| y) (fun _ _ => none) c
  | .ixor => qp_two (fun x y => x ^^^ y) (fun _ _ => none) c
  | .ishl => qp_two (fun x y => x <<< (y &&& 31)) (fun _ _ => none) c
  | .ishr => qp_two (fun x y => x >>> (y &&& 31)) (fun _ _ => none) c
  | .iushr => qp_two (fun x y => (x.toUInt32 >>> (y.toUInt32 &&& Int32.toUInt32 31)).toInt32) (fun _ _ => none) c
  | .idiv => qp_two (fun x y => x / y) (fun _ y => some (¬ y = 0)) c
  | .irem => qp_two (fun x y => x - x / y * y) (fun _ y => some (¬ y = 0)) c
  | .ineg => match c.2.2.1 with
    | .int x :: st => some (none, c.1 + 1, c.2.1, .int (-x) :: st, c.2.2.2)
    | _ => none
  | .ladd => qp_twoL (fun x y => x + y) (fun _ _ => none) c
  | .lsub => qp_twoL (fun x y => x - y) (fun _ _ => none) c
  | .lmul => qp_twoL (fun x y => x * y) (fun _ _ => none) c
  | .ldiv => qp_twoL (fun x y => x / y) (fun _ y => some (¬ y = 0)) c
  | .lrem => qp_twoL (fun x y => x - x / y * y) (fun _ y => some (¬ y = 0)) c
  | .lcmp => match c.2.2.1 with
    | .long y :: .long x :: st => some (none, c.1 + 1, c.2.1, .int (lg_cmp x y) :: st, c.2.2.2)
    | _ => none
  | .i2l => match c.2.2.1 with
    | .int x :: st => some (none, c.1 + 1, c.2.1, .long x.toInt64 :: st, c.2.2.2)
    | _ => none
  | .l2i => match c.2.2.1 with
    | .long x :: st => some (none, c.1 + 1, c.2.1, .int x.toInt32 :: st, c.2.2.2)
    | _ => none
  | .i2b => match c.2.2.1 with
    | .int x :: st => some (none, c.1 + 1, c.2.1, .int x.toInt8.toInt32 :: st, c.2.2.2)
    | _ => none
  | .goto _ => some (none, t, c.2.1, c.2.2.1, c.2.2.2)
  | .tableswitch df lo hi offs => match c.2.2.1 with
    | .int x :: st => some (none, qp_swt df lo hi offs c.1 x, c.2.1, st, c.2.2.2)
    | _ => none
  | .iaload => qp_aldI c
  | .baload => qp_aldB c
  | .iastore => qp_astI c
  | .bastore => qp_astB c
  | .arraylength => qp_aln c
  | .getfield _ => qp_gtf t c
  | .putfield _ => qp_ptf o ini t c
  | .getstatic _ => qp_psh (.ref 1000) 3 c
  | .new _ => qp_nw lim t c
  | .newarray .int => qp_nwa lim 50 c
  | .newarray .boolean => qp_nwa lim 51 c
  | .invokespecial _ => bif Nat.beq t 5 then (match c.2.2.1 with
      | .ref _ :: st => bif Nat.ble (qp_cat st) 8 then some (none, c.1 + 3, c.2.1, st, c.2.2.2) else none
      | _ => none) else none
  | _ => none
/-- so many steps, and all that must hold for them -/
def qp_run (lim : Nat × Nat) (o : Nat) (ini : Bool) (K : List (List (Nat × Instr × Int32 × Nat))) : Nat → qp_C → Option (Prop × qp_C)
  | 0, c => some (True, c)
  | n + 1, c => match qp_ft8 K c.1 with
    | some e => match qp_step lim o ini e.1 e.2.1 e.2.2 c with
      | some (none, c') => qp_run lim o ini K n c'
      | some (some p, c') => match qp_run lim o ini K n c' with
        | some (q, c'') => some (p ∧ q, c'')
        | none => none
      | none => none
    | none => none
/-- a branch: what it asks, where it goes if so, if not -/
def qp_cnd (cd : ClassFile.Cond) (x y : Int32) : Prop := match cd with
  | .eq => x = y
  | .ne => ¬ x = y
  | .lt => x < y
  | .ge => y ≤ x
  | .gt => y < x
  | .le => x ≤ y
def qp_br (K : List (List (Nat × Instr × Int32 × Nat))) (c : qp_C) : Option (Prop × qp_C × qp_C) := match qp_ft8 K c.1 with
  | some e => match e.1, c.2.2.1 with
    | .ifCond cd _, .int x :: st => some (qp_cnd cd x 0, (e.2.2, c.2.1, st, c.2.2.2), (c.1 + 3, c.2.1, st, c.2.2.2))
    | .if_icmp cd _, .int y :: .int x :: st => some (qp_cnd cd x y, (e.2.2, c.2.1, st, c.2.2.2), (c.1 + 3, c.2.1, st, c.2.2.2))
    | _, _ => none
  | none => none
end
section
/-! THE WORLD OF A MEMORY: where its cells lie in the heap -/
def qp_tr (ad : Nat → Nat) : Value → Value
  | .ref r => .ref (ad r)
  | v => v
theorem qp_tr_cat (ad : Nat → Nat) (v : Value) : (qp_tr ad v).category = v.category := by cases v <;> rfl
/-- places of classes, the class of int[], of boolean[] -/
abbrev qp_G : Type := va_G × ClassId × ClassId
def qp_fs (M : qp_M) (ad : Nat → Nat) (r : Nat) : List Value := (List.range (M.2.2.2.1 r).2).map (fun k => qp_tr ad (qp_get M (M.2.2.2.1 r).1 r k))
def qp_e (G : qp_G) (M : qp_M) (ad : Nat → Nat) (r : Nat) : va_E :=
  bif Nat.beq (M.2.2.2.1 r).1 50 then .inl (G.2.1, ((M.2.2.2.1 r).2, .inl (M.1 r))) else bif Nat.beq (M.2.2.2.1 r).1 51 then .inl (G.2.2, ((M.2.2.2.1 r).2, .inl (M.1 r))) else .inr ((M.2.2.2.1 r).1, qp_fs M ad r)
def qp_w (G : qp_G) (M : qp_M) (ad : Nat → Nat) : va_W := (List.range M.2.2.2.2.1).map (fun r => (ad r, qp_e G M ad r))
abbrev qp_cl : List vw_C := (List.range 11).map (fun t => (qp_R t, qp_T t, qp_N t))
abbrev qp_tys (G : qp_G) : List (ClassId × FieldType) := [(G.2.1, .int), (G.2.2, .boolean)]
theorem qp_cl_at {t : Nat} (h : t < 11) : qp_cl[t]? = some (qp_R t, qp_T t, qp_N t) := by
  simp [qp_cl, h]
theorem qp_w_at {G : qp_G} {M : qp_M} {ad : Nat → Nat} {r : Nat} (h : r < M.2.2.2.2.1) : (qp_w G M ad)[r]? = some (ad r, qp_e G M ad r) := by
  simp [qp_w, h]
theorem qp_w_len {G : qp_G} {M : qp_M} {ad : Nat → Nat} : (qp_w G M ad).length = M.2.2.2.2.1 := by simp [qp_w]
theorem qp_w_set {G : qp_G} {M M' : qp_M} {ad : Nat → Nat} {r : Nat} {e : va_E} (hn : M'.2.2.2.2.1 = M.2.2.2.2.1) (he : qp_e G M' ad r = e) (ho : ∀ k, k ≠ r → qp_e G M' ad k = qp_e G M ad k) : (qp_w G M ad).set r (ad r, e) = qp_w G M' ad := by
  apply List.ext_getElem?
  intro k
  rw [List.getElem?_set]
  by_cases hk : r = k
  · subst hk
    rw [if_pos rfl, qp_w_len]
    by_cases hl : r < M.2.2.2.2.1
    · rw [if_pos hl, qp_w_at (by rw [hn]; exact hl), he]
    · rw [if_neg hl, List.getElem?_eq_none (by rw [qp_w_len]; omega)]
  · rw [if_neg hk]
    by_cases hl : k < M.2.2.2.2.1
    · rw [qp_w_at hl, qp_w_at (by rw [hn]; exact hl), ho k (fun q => hk q.symm)]
    · rw [List.getElem?_eq_none (by rw [qp_w_len]; omega), List.getElem?_eq_none (by rw [qp_w_len]; omega)]
theorem qp_w_app {G : qp_G} {M M' : qp_M} {ad ad' : Nat → Nat} {e : va_E} (hn : M'.2.2.2.2.1 = M.2.2.2.2.1 + 1) (he : qp_e G M' ad' M.2.2.2.2.1 = e) (ha : ∀ k, k < M.2.2.2.2.1 → ad' k = ad k) (ho : ∀ k, k < M.2.2.2.2.1 → qp_e G M' ad' k = qp_e G M ad k) : qp_w G M ad ++ [(ad' M.2.2.2.2.1, e)] = qp_w G M' ad' := by
  unfold qp_w
  rw [hn, List.range_succ, List.map_append, List.map_cons, List.map_nil, he]
  congr 1
  apply List.map_congr_left
  intro k hk
  rw [ha k (List.mem_range.mp hk), ho k (List.mem_range.mp hk)]
/-! small things on the functions -/
theorem qp_up_ne {α : Type} {f : Nat → Nat → α} {k j : Nat} {v : α} {k' j' : Nat} (h : k' ≠ k) : qp_up f k j v k' j' = f k' j' := by
  have h0 : Nat.beq k k' = false := Bool.eq_false_iff.mpr (fun q => h (Nat.eq_of_beq_eq_true q).symm)
  simp [qp_up, h0]
theorem qp_up_nj {α : Type} {f : Nat → Nat → α} {k j : Nat} {v : α} {k' j' : Nat} (h : j' ≠ j) : qp_up f k j v k' j' = f k' j' := by
  have h0 : Nat.beq j j' = false := Bool.eq_false_iff.mpr (fun q => h (Nat.eq_of_beq_eq_true q).symm)
  simp [qp_up, h0]
theorem qp_up_eq {α : Type} {f : Nat → Nat → α} {k j : Nat} {v : α} : qp_up f k j v k j = v := by simp [qp_up]
theorem qp_up1_ne {α : Type} {f : Nat → α} {k : Nat} {v : α} {k' : Nat} (h : k' ≠ k) : qp_up1 f k v k' = f k' := by
  have h0 : Nat.beq k k' = false := Bool.eq_false_iff.mpr (fun q => h (Nat.eq_of_beq_eq_true q).symm)
  simp [qp_up1, h0]
theorem qp_up1_eq {α : Type} {f : Nat → α} {k : Nat} {v : α} : qp_up1 f k v k = v := by simp [qp_up1]
theorem qp_len_eq {α : Type} (L : List α) : qp_len L = L.length := by
  induction L with
  | nil => rfl
  | cons a t ih => show Nat.succ (qp_len t) = _; rw [ih]; rfl
theorem qp_nth_eq {α : Type} : ∀ (L : List α) (i : Nat), qp_nth L i = L[i]?
  | [], i => by simp [qp_nth]
  | _ :: _, 0 => rfl
  | _ :: t, i + 1 => by simp [qp_nth, qp_nth_eq t i]
theorem qp_setN_eq {α : Type} : ∀ (L : List α) (i : Nat) (v : α), qp_setN L i v = L.set i v
  | [], i, v => by simp [qp_setN]
  | _ :: _, 0, v => rfl
  | _ :: t, i + 1, v => by simp [qp_setN, qp_setN_eq t i v]
theorem qp_cat_eq (L : List Value) : qp_cat L = (L.map (fun v => v.category)).sum := by
  induction L with
  | nil => rfl
  | cons a t ih => simp [qp_cat, ih]
theorem qp_cat_tr (ad : Nat → Nat) (L : List Value) : ((L.map (qp_tr ad)).map (fun v => v.category)).sum = qp_cat L := by
  rw [qp_cat_eq, List.map_map]
  congr 1
  apply List.map_congr_left
  intro v _
  exact qp_tr_cat ad v
/-! the locals -/
def qp_Ls (ls : Array Slot) (nL : Nat) (ad : Nat → Nat) (L : List (Option Value)) : Prop := ls.size = nL ∧ lv_wf ls ∧ L.length = nL ∧ ∀ (i : Nat) (v : Value), L[i]? = some (some v) → ls[i]? = some (.val (qp_tr ad v))
def qp_lv (ad : Nat → Nat) (L : List (Option Value)) : List (Nat × Value) := (List.range L.length).filterMap (fun i => match L[i]? with
  | some (some v) => some (i, qp_tr ad v)
  | _ => none)
theorem qp_lv_mem {ad : Nat → Nat} {L : List (Option Value)} {i : Nat} {w : Value} : (i, w) ∈ qp_lv ad L ↔ ∃ v, L[i]? = some (some v) ∧ w = qp_tr ad v := by
  unfold qp_lv
  rw [List.mem_filterMap]
  constructor
  · rintro ⟨j, hj, h⟩
    split at h
    · next v hv =>
      simp only [Option.some.injEq, Prod.mk.injEq] at h
      obtain ⟨rfl, rfl⟩ := h
      exact ⟨v, hv, rfl⟩
    · cases h
  · rintro ⟨v, hv, rfl⟩
    refine ⟨i, List.mem_range.mpr (List.getElem?_eq_some_iff.mp hv).1, ?_⟩
    rw [hv]
theorem qp_Ls_has {ls : Array Slot} {nL : Nat} {ad : Nat → Nat} {L : List (Option Value)} (h : qp_Ls ls nL ad L) : lv_has ls nL (qp_lv ad L) := by
  refine ⟨h.1, h.2.1, fun q hq => ?_⟩
  obtain ⟨i, w⟩ := q
  obtain ⟨v, hv, rfl⟩ := qp_lv_mem.mp hq
  exact h.2.2.2 i v hv
theorem qp_Ls_at {ls : Array Slot} {nL : Nat} {ad : Nat → Nat} {L : List (Option Value)} (h : qp_Ls ls nL ad L) {i : Nat} {v : Value} (hi : qp_nth L i = some (some v)) : ls[i]? = some (.val (qp_tr ad v)) := h.2.2.2 i v (by rw [← qp_nth_eq]; exact hi)
theorem qp_cut_at {L : List (Option Value)} {j i : Nat} {v : Value} (h : (qp_cut L j)[i]? = some (some v)) : L[i]? = some (some v) ∧ ¬ (i + 1 = j ∧ v.category = 2) := by
  cases j with
  | zero => exact ⟨h, fun q => by omega⟩
  | succ k =>
    simp only [qp_cut] at h
    split at h
    · next w hw =>
      rw [qp_setN_eq, List.getElem?_set] at h
      by_cases hk : k = i
      · subst hk
        rw [if_pos rfl] at h
        split at h
        · cases h
        · cases h
      · rw [if_neg hk] at h
        exact ⟨h, fun q => hk (by omega)⟩
    · next w hw =>
      rw [qp_setN_eq, List.getElem?_set] at h
      by_cases hk : k = i
      · subst hk
        rw [if_pos rfl] at h
        split at h
        · cases h
        · cases h
      · rw [if_neg hk] at h
        exact ⟨h, fun q => hk (by omega)⟩
    · next hn1 hn2 =>
      refine ⟨h, fun q => ?_⟩
      have hik : i = k := by omega
      subst hik
      rw [qp_nth_eq] at hn1 hn2
      cases v with
      | long x => exact hn1 x h
      | double x => exact hn2 x h
      | _ => exact absurd q.2 (by simp [Value.category])
theorem qp_cut_len {L : List (Option Value)} {j : Nat} : (qp_cut L j).length = L.length := by
  cases j with
  | zero => rfl
  | succ k =>
    simp only [qp_cut]
    split <;> first | rfl | rw [qp_setN_eq, List.length_set]
theorem qp_Ls_sto {ls' : Array Slot} {nL : Nat} {ad : Nat → Nat} {L : List (Option Value)} {j : Nat} {v : Value} (hn : L.length = nL)
    (h : lv_has ls' nL ((j, qp_tr ad v) :: (qp_lv ad L).filter (fun q => !(q.1 == j) && !(q.1 + 1 == j && q.2.category == 2)))) : qp_Ls ls' nL ad (qp_sto L j v) := by
  refine ⟨h.1, h.2.1, ?_, fun i w hi => ?_⟩
  · unfold qp_sto
    rw [qp_setN_eq, List.length_set, qp_cut_len, hn]
  · unfold qp_sto at hi
    rw [qp_setN_eq, List.getElem?_set] at hi
    by_cases hk : j = i
    · subst hk
      rw [if_pos rfl] at hi
      split at hi
      · simp only [Option.some.injEq] at hi
        subst hi
        exact h.2.2 (j, _) List.mem_cons_self
      · cases hi
    · rw [if_neg hk] at hi
      obtain ⟨h1, h2⟩ := qp_cut_at hi
      refine h.2.2 (i, qp_tr ad w) (List.mem_cons_of_mem _ (List.mem_filter.mpr ⟨qp_lv_mem.mpr ⟨w, h1, rfl⟩, ?_⟩))
      have e1 : (i == j) = false := by simpa using fun q => hk q.symm
      have e2 : ((i + 1 == j) && ((qp_tr ad w).category == 2)) = false := by
        rw [qp_tr_cat]
        cases ha : (i + 1 == j) with
        | false => rfl
        | true =>
          cases hb : (w.category == 2) with
          | false => rfl
          | true => exact absurd ⟨by simpa using ha, by simpa using hb⟩ h2
      show (!(i == j) && !((i + 1 == j) && ((qp_tr ad w).category == 2))) = true
      rw [e1, e2]
      rfl
theorem qp_Ls_stoL {ls' : Array Slot} {nL : Nat} {ad : Nat → Nat} {L : List (Option Value)} {j : Nat} {v : Value} (hn : L.length = nL)
    (h : lv_has ls' nL ((j, qp_tr ad v) :: (qp_lv ad L).filter (fun q => !(q.1 == j) && (!(q.1 == j + 1) && !(q.1 + 1 == j && q.2.category == 2))))) : qp_Ls ls' nL ad (qp_stoL L j v) := by
  refine ⟨h.1, h.2.1, ?_, fun i w hi => ?_⟩
  · unfold qp_stoL
    rw [qp_setN_eq, qp_setN_eq, List.length_set, List.length_set, qp_cut_len, hn]
  · unfold qp_stoL at hi
    rw [qp_setN_eq, qp_setN_eq, List.getElem?_set] at hi
    by_cases hk1 : j + 1 = i
    · subst hk1
      rw [if_pos rfl] at hi
      split at hi
      · cases hi
      · cases hi
    rw [if_neg hk1, List.getElem?_set] at hi
    by_cases hk : j = i
    · subst hk
      rw [if_pos rfl] at hi
      split at hi
      · simp only [Option.some.injEq] at hi
        subst hi
        exact h.2.2 (j, _) List.mem_cons_self
      · cases hi
    · rw [if_neg hk] at hi
      obtain ⟨h1, h2⟩ := qp_cut_at hi
      refine h.2.2 (i, qp_tr ad w) (List.mem_cons_of_mem _ (List.mem_filter.mpr ⟨qp_lv_mem.mpr ⟨w, h1, rfl⟩, ?_⟩))
      have e1 : (i == j) = false := by simpa using fun q => hk q.symm
      have e3 : (i == j + 1) = false := by simpa using fun q => hk1 q.symm
      have e2 : ((i + 1 == j) && ((qp_tr ad w).category == 2)) = false := by
        rw [qp_tr_cat]
        cases ha : (i + 1 == j) with
        | false => rfl
        | true =>
          cases hb : (w.category == 2) with
          | false => rfl
          | true => exact absurd ⟨by simpa using ha, by simpa using hb⟩ h2
      show (!(i == j) && (!(i == j + 1) && !((i + 1 == j) && ((qp_tr ad w).category == 2)))) = true
      rw [e1, e2, e3]
      rfl
end
section
/-! A STEP OF THE FUNCTION IS A STEP OF THE MACHINE -/
theorem qp_up_row {α : Type} {f : Nat → Nat → α} {k j : Nat} {v : α} {k' : Nat} (h : k' ≠ k) : qp_up f k j v k' = f k' := funext fun _ => qp_up_ne h
theorem qp_up_upd {f : Nat → Nat → Int32} {k j : Nat} {v : Int32} : qp_up f k j v k = upd (f k) j v := by
  funext j'
  unfold upd
  by_cases h : j' = j
  · subst h; rw [if_pos rfl, qp_up_eq]
  · rw [if_neg h, qp_up_nj h]
theorem qp_get_ne {M M' : qp_M} {ci r k : Nat} (h1 : M'.1 r k = M.1 r k) (h2 : M'.2.1 r k = M.2.1 r k) (h3 : M'.2.2.1 r k = M.2.2.1 r k) : qp_get M' ci r k = qp_get M ci r k := by
  unfold qp_get; rw [h1, h2, h3]
theorem qp_e_same {G : qp_G} {M M' : qp_M} {ad : Nat → Nat} {r : Nat} (h1 : M'.1 r = M.1 r) (h2 : M'.2.1 r = M.2.1 r) (h3 : M'.2.2.1 r = M.2.2.1 r) (h4 : M'.2.2.2.1 r = M.2.2.2.1 r) : qp_e G M' ad r = qp_e G M ad r := by
  unfold qp_e qp_fs
  rw [h1, h4]
  have e : ∀ (ci : Nat), (fun k => qp_tr ad (qp_get M' ci r k)) = (fun k => qp_tr ad (qp_get M ci r k)) := fun ci => funext fun k => congrArg (qp_tr ad) (qp_get_ne (by rw [h1]) (by rw [h2]) (by rw [h3]))
  rw [e]
theorem qp_fs_set {M M' : qp_M} {ad : Nat → Nat} {r k : Nat} {w : Value} (h4 : M'.2.2.2.1 r = M.2.2.2.1 r) (hk : qp_tr ad (qp_get M' (M.2.2.2.1 r).1 r k) = w) (ho : ∀ j, j ≠ k → qp_get M' (M.2.2.2.1 r).1 r j = qp_get M (M.2.2.2.1 r).1 r j) : qp_fs M' ad r = (qp_fs M ad r).set k w := by
  apply List.ext_getElem?
  intro j
  unfold qp_fs
  rw [h4, List.getElem?_set]
  by_cases hj : k = j
  · subst hj
    rw [if_pos rfl]
    by_cases hl : k < (M.2.2.2.1 r).2
    · rw [if_pos (by simpa using hl)]
      simp [hl, hk]
    · rw [if_neg (by simpa using hl)]
      simp [hl]
  · rw [if_neg hj]
    by_cases hl : j < (M.2.2.2.1 r).2
    · simp [hl, ho j (fun q => hj q.symm)]
    · simp [hl]
theorem qp_fs_at {M : qp_M} {ad : Nat → Nat} {r k : Nat} (h : k < (M.2.2.2.1 r).2) : (qp_fs M ad r)[k]? = some (qp_tr ad (qp_get M (M.2.2.2.1 r).1 r k)) := by simp [qp_fs, h]
theorem qp_e_obj {G : qp_G} {M : qp_M} {ad : Nat → Nat} {r t : Nat} (h : (M.2.2.2.1 r).1 = t) (ht : t < 50) : qp_e G M ad r = .inr (t, qp_fs M ad r) := by
  have e1 : Nat.beq (M.2.2.2.1 r).1 50 = false := Bool.eq_false_iff.mpr (fun q => by have := Nat.eq_of_beq_eq_true q; omega)
  have e2 : Nat.beq (M.2.2.2.1 r).1 51 = false := Bool.eq_false_iff.mpr (fun q => by have := Nat.eq_of_beq_eq_true q; omega)
  unfold qp_e
  rw [e1, e2, h]
  rfl
theorem qp_e_int {G : qp_G} {M : qp_M} {ad : Nat → Nat} {r : Nat} (h : (M.2.2.2.1 r).1 = 50) : qp_e G M ad r = .inl (G.2.1, ((M.2.2.2.1 r).2, .inl (M.1 r))) := by
  unfold qp_e; rw [h]; rfl
theorem qp_e_boo {G : qp_G} {M : qp_M} {ad : Nat → Nat} {r : Nat} (h : (M.2.2.2.1 r).1 = 51) : qp_e G M ad r = .inl (G.2.2, ((M.2.2.2.1 r).2, .inl (M.1 r))) := by
  unfold qp_e; rw [h]; rfl
theorem qp_and {a b : Bool} (h : (a && b) = true) : a = true ∧ b = true := by simpa using h
theorem qp_blt {a b : Nat} (h : Nat.blt a b = true) : a < b := by
  unfold Nat.blt at h
  exact Nat.le_of_ble_eq_true h
theorem qp_kn_tr {n : Nat} {ad ad' : Nat → Nat} (ha : ∀ k, k < n → ad' k = ad k) (h1 : ad' 1000 = ad 1000) {v : Value} (h : qp_kn n v = true) : qp_tr ad' v = qp_tr ad v := by
  cases v with
  | ref r =>
    unfold qp_kn at h
    rcases (Bool.or_eq_true _ _).mp h with h | h
    · show Value.ref _ = Value.ref _
      rw [ha r (qp_blt h)]
    · have := Nat.eq_of_beq_eq_true h
      subst this
      show Value.ref _ = Value.ref _
      rw [h1]
  | _ => rfl
theorem qp_mk1_old {M : qp_M} {tag n k : Nat} (h : k < M.2.2.2.2.1) : (qp_mk1 M tag n).1 k = M.1 k ∧ (qp_mk1 M tag n).2.1 k = M.2.1 k ∧ (qp_mk1 M tag n).2.2.1 k = M.2.2.1 k ∧ (qp_mk1 M tag n).2.2.2.1 k = M.2.2.2.1 k := by
  have h0 : Nat.beq M.2.2.2.2.1 k = false := Bool.eq_false_iff.mpr (fun q => by have := Nat.eq_of_beq_eq_true q; omega)
  refine ⟨funext fun j => ?_, funext fun j => ?_, funext fun j => ?_, ?_⟩
  · show (bif Nat.beq M.2.2.2.2.1 k then _ else _) = _; rw [h0]; rfl
  · show (bif Nat.beq M.2.2.2.2.1 k then _ else _) = _; rw [h0]; rfl
  · show (bif Nat.beq M.2.2.2.2.1 k then _ else _) = _; rw [h0]; rfl
  · exact qp_up1_ne (by omega)
theorem qp_mk1_new {M : qp_M} {tag n : Nat} : (∀ j, (qp_mk1 M tag n).1 M.2.2.2.2.1 j = 0) ∧ (∀ j, (qp_mk1 M tag n).2.1 M.2.2.2.2.1 j = 0) ∧ (∀ j, (qp_mk1 M tag n).2.2.1 M.2.2.2.2.1 j = none) ∧ (qp_mk1 M tag n).2.2.2.1 M.2.2.2.2.1 = (tag, n) := by
  have h0 : Nat.beq M.2.2.2.2.1 M.2.2.2.2.1 = true := by simp
  refine ⟨fun j => ?_, fun j => ?_, fun j => ?_, qp_up1_eq⟩
  · show (bif Nat.beq M.2.2.2.2.1 M.2.2.2.2.1 then _ else _) = _; rw [h0]; rfl
  · show (bif Nat.beq M.2.2.2.2.1 M.2.2.2.2.1 then _ else _) = _; rw [h0]; rfl
  · show (bif Nat.beq M.2.2.2.2.1 M.2.2.2.2.1 then _ else _) = _; rw [h0]; rfl
theorem qp_known {G : qp_G} {M : qp_M} {ad ad' : Nat → Nat} {pc tag n : Nat} {L : List (Option Value)} {st : List Value} (ha : ∀ k, k < M.2.2.2.2.1 → ad' k = ad k) (h1 : ad' 1000 = ad 1000) (hk : qp_knw (pc, L, st, M) = true) :
    (∀ v, some v ∈ L → qp_tr ad' v = qp_tr ad v) ∧ st.map (qp_tr ad') = st.map (qp_tr ad) ∧ ∀ k, k < M.2.2.2.2.1 → qp_e G (qp_mk1 M tag n) ad' k = qp_e G M ad k := by
  unfold qp_knw at hk
  obtain ⟨hk, k3⟩ := qp_and hk
  obtain ⟨k1, k2⟩ := qp_and hk
  refine ⟨fun v hv => qp_kn_tr ha h1 (List.all_eq_true.mp k1 _ hv), List.map_congr_left (fun v hv => qp_kn_tr ha h1 (List.all_eq_true.mp k2 _ hv)), fun k hl => ?_⟩
  have h3 := List.all_eq_true.mp k3 k (List.mem_range.mpr hl)
  obtain ⟨e1, e2, e3, e4⟩ := qp_mk1_old (tag := tag) (n := n) hl
  by_cases c1 : (M.2.2.2.1 k).1 = 50
  · rw [qp_e_int (by rw [e4]; exact c1), qp_e_int c1, e1, e4]
  · by_cases c2 : (M.2.2.2.1 k).1 = 51
    · rw [qp_e_boo (by rw [e4]; exact c2), qp_e_boo c2, e1, e4]
    · have d1 : Nat.beq (M.2.2.2.1 k).1 50 = false := Bool.eq_false_iff.mpr (fun q => c1 (Nat.eq_of_beq_eq_true q))
      have d2 : Nat.beq (M.2.2.2.1 k).1 51 = false := Bool.eq_false_iff.mpr (fun q => c2 (Nat.eq_of_beq_eq_true q))
      have f1 : qp_e G M ad k = .inr ((M.2.2.2.1 k).1, qp_fs M ad k) := by unfold qp_e; rw [d1, d2]; rfl
      have f2 : qp_e G (qp_mk1 M tag n) ad' k = .inr ((M.2.2.2.1 k).1, qp_fs (qp_mk1 M tag n) ad' k) := by unfold qp_e; rw [e4, d1, d2]; rfl
      rw [f1, f2]
      congr 2
      unfold qp_fs
      rw [e4]
      apply List.map_congr_left
      intro j hj
      simp only [d1, d2, Bool.or_false, cond_false] at h3
      have h4 := List.all_eq_true.mp h3 j hj
      rw [qp_get_ne (M := M) (M' := qp_mk1 M tag n) (by rw [e1]) (by rw [e2]) (by rw [e3])]
      exact qp_kn_tr ha h1 h4
theorem qp_Ls_kn {ls : Array Slot} {nL : Nat} {ad ad' : Nat → Nat} {L : List (Option Value)} (h : qp_Ls ls nL ad L) (hk : ∀ v, some v ∈ L → qp_tr ad' v = qp_tr ad v) : qp_Ls ls nL ad' L :=
  ⟨h.1, h.2.1, h.2.2.1, fun i v hi => by rw [hk v (List.mem_of_getElem? hi)]; exact h.2.2.2 i v hi⟩
theorem qp_fit_of {lim : Nat × Nat} {M : qp_M} (h : qp_fit lim M = true) : M.2.2.2.2.1 ≤ lim.1 ∧ M.2.2.2.2.2 ≤ lim.2 ∧ M.2.2.2.2.1 ≤ 900 := by
  unfold qp_fit at h
  obtain ⟨h, h3⟩ := qp_and h
  obtain ⟨h1, h2⟩ := qp_and h
  exact ⟨Nat.le_of_ble_eq_true h1, Nat.le_of_ble_eq_true h2, Nat.le_of_ble_eq_true h3⟩
def qp_X (p : Program) (s : State) (m : MethodId) (args : Array Value) (meth : Method) (cd : Code) (G : qp_G) (o : Nat) (bs : ByteArray) (nL : Nat) (ini : Bool) (A : Nat → Prop) (tl : Nat) : Prop :=
  p.tables.exec = Jvm.exec ∧ cd.code = bs ∧ cd.maxLocals = nL ∧ s.vm.findClass (qp_R o) = some m.cls ∧ (∀ w ∈ qp_tb, w.before args s = true) ∧ (ini = true → meth.name = "<init>") ∧ va_K G.1 qp_cl (qp_tys G) s ∧ (∀ q : Nat, s.heap.size ≤ q → A q) ∧ (va_Z "QueuePlaces" "LETTERS" "[I" (.ref tl) A s s.heap ∧ va_T .int tl 6 (fun j => .int (qp_let j)) A s s.heap) ∧ (∀ w ∈ qp_nest, va_Nw w s)
def qp_V (p : Program) (l : Launch) (e : Env) (R : Room) (s : State) (m : MethodId) (args : Array Value) (below : List Frame) (meth : Method) (cd : Code) (G : qp_G) (nL : Nat) (A : Nat → Prop) (n0 q0 : Nat) (ad0 : Nat → Nat) (Z : State → Prop) (c : qp_C) : Prop :=
  ∀ (ad : Nat → Nat) (H : Heap) (locs : List Loc) (ls : Array Slot), (∀ k, (k < n0 ∨ c.2.2.2.2.2.2.2.1 ≤ k) → ad k = ad0 k) → n0 ≤ c.2.2.2.2.2.2.2.1 ∧ q0 ≤ c.2.2.2.2.2.2.2.2 ∧ c.2.2.2.2.2.2.2.1 ≤ 900 → va_P G.1 qp_cl (qp_w G c.2.2.2 ad) H → va_D A (qp_w G c.2.2.2 ad) → va_S A s.heap H locs → qp_Ls ls nL ad c.2.1 →
    W p l e R s m args below meth cd H locs (c.2.2.2.2.2.2.2.1 - n0) (c.2.2.2.2.2.2.2.2 - q0) Z (F0 m c.1 ls (c.2.2.1.map (qp_tr ad)))
section QPS
variable {p : Program} {l : Launch} {e : Env} {R : Room} {s : State} {m : MethodId} {args : Array Value} {below : List Frame} {meth : Method} {cd : Code} {G : qp_G} {o : Nat} {bs : ByteArray} {nL : Nat} {ini : Bool} {A : Nat → Prop} {n0 q0 : Nat} {ad0 : Nat → Nat} {Z : State → Prop} {lim : Nat × Nat}
theorem qp_getstatic (X : qp_X p s m args meth cd G o bs nL ini A (ad0 1000)) {ix t : Nat} (ho : qp_lk (qp_gR o) ix = some t) {H : Heap} {locs : List Loc} {cells slots pc : Nat} {ls : Array Slot} {st : List Value} (hd : decode bs pc = .ok (.getstatic ix, 3)) (hS : va_S A s.heap H locs)
    (k : W p l e R s m args below meth cd H locs cells slots Z (F0 m (pc + 3) ls (.ref (ad0 1000) :: st))) : W p l e R s m args below meth cd H locs cells slots Z (F0 m pc ls st) := by
  obtain ⟨hx, hb, hml, hown, hts, hin, hK, hA, ⟨hZ, hT⟩, hN⟩ := X
  have hm := qp_lk_mem ho
  unfold qp_gR at hm
  split at hm
  · next =>
    simp only [List.mem_cons, Prod.mk.injEq, List.not_mem_nil, or_false] at hm
    obtain ⟨rfl, rfl⟩ := hm
    exact va_getsN hx hb hZ hS hown (va_Nw.use rfl (hN _ (List.mem_append_right _ List.mem_cons_self))) (fun _ h => h) hd k
  · cases hm
set_option maxHeartbeats 4000000 in
theorem qp_W1 (X : qp_X p s m args meth cd G o bs nL ini A (ad0 1000)) {c c' : qp_C} {i : Instr} {v : Int32} {t : Nat} {f : Option Prop} (hd : decode bs c.1 = .ok (i, qp_il i t)) (ho : qp_opd o c.1 i v t = true) (h : qp_step lim o ini i v t c = some (f, c')) (hf : ∀ q, f = some q → q) (hlim : lim.1 ≤ n0 + R.cells ∧ lim.2 ≤ q0 + R.slots) (hR : 1 ≤ R.frames ∧ 40 ≤ R.locals)
    (k : qp_V p l e R s m args below meth cd G nL A n0 q0 ad0 Z c') : qp_V p l e R s m args below meth cd G nL A n0 q0 ad0 Z c := by
  have X0 := X
  obtain ⟨hx, hb, hml, hown, hts, hin, hK, hA, ⟨hZ, hT⟩, hN⟩ := X
  obtain ⟨pc, L, st, M⟩ := c
  intro ad H locs ls g1 g3 hP hD hS hl
  dsimp only at hd ho g1 g3 hP hD hl ⊢
  have g2 : ad 1000 = ad0 1000 := g1 1000 (Or.inr (by omega))
  have hlL : qp_len L = nL := by rw [qp_len_eq]; exact hl.2.2.1
  cases i with
  | iconst n =>
    simp only [qp_step, qp_psh, Option.some.injEq, Prod.mk.injEq] at h
    obtain ⟨rfl, rfl⟩ := h
    exact lv_iconst hx hb hd (by simpa [qp_opd] using ho) (k ad H locs ls g1 g3 hP hD hS hl)
  | bipush n =>
    simp only [qp_step, qp_psh, Option.some.injEq, Prod.mk.injEq] at h
    obtain ⟨rfl, rfl⟩ := h
    exact lv_bipush hx hb hd (by simpa [qp_opd] using ho) (k ad H locs ls g1 g3 hP hD hS hl)
  | sipush n =>
    simp only [qp_step, qp_psh, Option.some.injEq, Prod.mk.injEq] at h
    obtain ⟨rfl, rfl⟩ := h
    exact lv_sipush hx hb hd (by simpa [qp_opd] using ho) (k ad H locs ls g1 g3 hP hD hS hl)
  | ldc n =>
    simp only [qp_step, qp_psh, Option.some.injEq, Prod.mk.injEq] at h
    obtain ⟨rfl, rfl⟩ := h
    exact lv_ldc hx hb hown (hts _ (qp_mK (by simpa [qp_opd] using ho))) hd (k ad H locs ls g1 g3 hP hD hS hl)
  | ldc_w n =>
    simp only [qp_step, qp_psh, Option.some.injEq, Prod.mk.injEq] at h
    obtain ⟨rfl, rfl⟩ := h
    exact lv_ldcw hx hb hown (hts _ (qp_mK (by simpa [qp_opd] using ho))) hd (k ad H locs ls g1 g3 hP hD hS hl)
  | lconst n =>
    simp only [qp_step, qp_psh, Option.some.injEq, Prod.mk.injEq] at h
    obtain ⟨rfl, rfl⟩ := h
    exact lv_lconst hx hb hd (by rcases n with ⟨n, hn⟩; rcases (by omega : n = 0 ∨ n = 1) with rfl | rfl <;> rfl) (k ad H locs ls g1 g3 hP hD hS hl)
  | ldc2_w n =>
    simp only [qp_step] at h
    split at h
    · next w hw =>
      simp only [qp_psh, Option.some.injEq, Prod.mk.injEq] at h
      obtain ⟨rfl, rfl⟩ := h
      exact lv_ldc2 hx hb hown (hts _ (qp_mL8 hw)) hd (k ad H locs ls g1 g3 hP hD hS hl)
    · cases h
  | iload j =>
    simp only [qp_step, qp_ldI] at h
    split at h
    · next x hx1 =>
      simp only [Option.some.injEq, Prod.mk.injEq] at h
      obtain ⟨rfl, rfl⟩ := h
      exact lv_iload hx hb hd (qp_Ls_at hl hx1) (k ad H locs ls g1 g3 hP hD hS hl)
    · cases h
  | iload_n j =>
    simp only [qp_step, qp_ldI] at h
    split at h
    · next x hx1 =>
      simp only [Option.some.injEq, Prod.mk.injEq] at h
      obtain ⟨rfl, rfl⟩ := h
      exact lv_iload_n hx hb hd rfl (qp_Ls_at hl hx1) (k ad H locs ls g1 g3 hP hD hS hl)
    · cases h
  | lload j =>
    simp only [qp_step, qp_ldL] at h
    split at h
    · next x hx1 =>
      simp only [Option.some.injEq, Prod.mk.injEq] at h
      obtain ⟨rfl, rfl⟩ := h
      exact lv_lload hx hb hd (qp_Ls_at hl hx1) (k ad H locs ls g1 g3 hP hD hS hl)
    · cases h
  | lload_n j =>
    simp only [qp_step, qp_ldL] at h
    split at h
    · next x hx1 =>
      simp only [Option.some.injEq, Prod.mk.injEq] at h
      obtain ⟨rfl, rfl⟩ := h
      exact lv_lload_n hx hb hd rfl (qp_Ls_at hl hx1) (k ad H locs ls g1 g3 hP hD hS hl)
    · cases h
  | aload j =>
    simp only [qp_step, qp_ldR] at h
    split at h
    · next x hx1 =>
      simp only [Option.some.injEq, Prod.mk.injEq] at h
      obtain ⟨rfl, rfl⟩ := h
      exact lv_aload hx hb hd (qp_Ls_at hl hx1) (k ad H locs ls g1 g3 hP hD hS hl)
    · cases h
  | aload_n j =>
    simp only [qp_step, qp_ldR] at h
    split at h
    · next x hx1 =>
      simp only [Option.some.injEq, Prod.mk.injEq] at h
      obtain ⟨rfl, rfl⟩ := h
      exact lv_aload_n hx hb hd rfl (qp_Ls_at hl hx1) (k ad H locs ls g1 g3 hP hD hS hl)
    · cases h
  | istore j =>
    simp only [qp_step, qp_stI] at h
    split at h
    · next x st' =>
      cases hb8 : Nat.blt j (qp_len L) with
      | false => rw [hb8] at h; cases h
      | true =>
        rw [hb8] at h
        simp only [cond_true, Option.some.injEq, Prod.mk.injEq] at h
        obtain ⟨rfl, rfl⟩ := h
        exact lv_istore hx hb hd (qp_Ls_has hl) (by rw [← hlL]; exact qp_blt hb8) rfl (fun ls' h' => k ad H locs ls' g1 g3 hP hD hS (qp_Ls_sto (v := .int x) hl.2.2.1 h'))
    · cases h
  | istore_n j =>
    simp only [qp_step, qp_stI] at h
    split at h
    · next x st' =>
      cases hb8 : Nat.blt j.val (qp_len L) with
      | false => rw [hb8] at h; cases h
      | true =>
        rw [hb8] at h
        simp only [cond_true, Option.some.injEq, Prod.mk.injEq] at h
        obtain ⟨rfl, rfl⟩ := h
        exact lv_istore_n hx hb hd rfl (qp_Ls_has hl) (by rw [← hlL]; exact qp_blt hb8) rfl (fun ls' h' => k ad H locs ls' g1 g3 hP hD hS (qp_Ls_sto (v := .int x) hl.2.2.1 h'))
    · cases h
  | lstore j =>
    simp only [qp_step, qp_stL] at h
    split at h
    · next x st' =>
      cases hb8 : Nat.blt (j + 1) (qp_len L) with
      | false => rw [hb8] at h; cases h
      | true =>
        rw [hb8] at h
        simp only [cond_true, Option.some.injEq, Prod.mk.injEq] at h
        obtain ⟨rfl, rfl⟩ := h
        exact lv_lstore hx hb hd (qp_Ls_has hl) (by rw [← hlL]; exact qp_blt hb8) rfl (fun ls' h' => k ad H locs ls' g1 g3 hP hD hS (qp_Ls_stoL (v := .long x) hl.2.2.1 h'))
    · cases h
  | lstore_n j =>
    simp only [qp_step, qp_stL] at h
    split at h
    · next x st' =>
      cases hb8 : Nat.blt (j.val + 1) (qp_len L) with
      | false => rw [hb8] at h; cases h
      | true =>
        rw [hb8] at h
        simp only [cond_true, Option.some.injEq, Prod.mk.injEq] at h
        obtain ⟨rfl, rfl⟩ := h
        exact lv_lstore_n hx hb hd rfl (qp_Ls_has hl) (by rw [← hlL]; exact qp_blt hb8) rfl (fun ls' h' => k ad H locs ls' g1 g3 hP hD hS (qp_Ls_stoL (v := .long x) hl.2.2.1 h'))
    · cases h
  | astore j =>
    simp only [qp_step, qp_stR] at h
    split at h
    · next x st' =>
      cases hb8 : Nat.blt j (qp_len L) with
      | false => rw [hb8] at h; cases h
      | true =>
        rw [hb8] at h
        simp only [cond_true, Option.some.injEq, Prod.mk.injEq] at h
        obtain ⟨rfl, rfl⟩ := h
        exact lv_astore hx hb hd (qp_Ls_has hl) (by rw [← hlL]; exact qp_blt hb8) rfl (fun ls' h' => k ad H locs ls' g1 g3 hP hD hS (qp_Ls_sto (v := .ref x) hl.2.2.1 h'))
    · cases h
  | astore_n j =>
    simp only [qp_step, qp_stR] at h
    split at h
    · next x st' =>
      cases hb8 : Nat.blt j.val (qp_len L) with
      | false => rw [hb8] at h; cases h
      | true =>
        rw [hb8] at h
        simp only [cond_true, Option.some.injEq, Prod.mk.injEq] at h
        obtain ⟨rfl, rfl⟩ := h
        exact lv_astore_n hx hb hd rfl (qp_Ls_has hl) (by rw [← hlL]; exact qp_blt hb8) rfl (fun ls' h' => k ad H locs ls' g1 g3 hP hD hS (qp_Ls_sto (v := .ref x) hl.2.2.1 h'))
    · cases h
  | iinc j n =>
    simp only [qp_step] at h
    split at h
    · next x hx1 =>
      simp only [Option.some.injEq, Prod.mk.injEq] at h
      obtain ⟨rfl, rfl⟩ := h
      have hv : Int32.ofInt n = v := by simpa [qp_opd] using ho
      have hj : j < nL := by
        rw [qp_nth_eq] at hx1
        have := (List.getElem?_eq_some_iff.mp hx1).1
        rw [hl.2.2.1] at this
        exact this
      obtain ⟨kx, hkx⟩ := List.getElem?_of_mem (qp_lv_mem (ad := ad) (L := L) (i := j) (w := .int x) |>.mpr ⟨.int x, by rw [← qp_nth_eq]; exact hx1, rfl⟩)
      exact lv_iinc hx hb hd (qp_Ls_has hl) hkx (by rw [hv]) hj rfl (fun ls' h' => k ad H locs ls' g1 g3 hP hD hS (qp_Ls_sto (v := .int (x + v)) hl.2.2.1 h'))
    · cases h
  | dup =>
    simp only [qp_step] at h
    split at h
    · simp only [Option.some.injEq, Prod.mk.injEq] at h
      obtain ⟨rfl, rfl⟩ := h
      exact lv_dup hx hb hd rfl (k ad H locs ls g1 g3 hP hD hS hl)
    · simp only [Option.some.injEq, Prod.mk.injEq] at h
      obtain ⟨rfl, rfl⟩ := h
      exact lv_dup hx hb hd rfl (k ad H locs ls g1 g3 hP hD hS hl)
    · cases h
  | dup2 =>
    simp only [qp_step] at h
    split at h
    · simp only [Option.some.injEq, Prod.mk.injEq] at h
      obtain ⟨rfl, rfl⟩ := h
      exact lv_dup2_11 hx hb hd rfl rfl (k ad H locs ls g1 g3 hP hD hS hl)
    · cases h
  | pop =>
    simp only [qp_step] at h
    split at h
    · simp only [Option.some.injEq, Prod.mk.injEq] at h
      obtain ⟨rfl, rfl⟩ := h
      exact lv_pop hx hb hd rfl (k ad H locs ls g1 g3 hP hD hS hl)
    · cases h
  | iadd =>
    simp only [qp_step, qp_two] at h
    split at h
    · simp only [Option.some.injEq, Prod.mk.injEq] at h
      obtain ⟨rfl, rfl⟩ := h
      exact lv_iadd hx hb hd (k ad H locs ls g1 g3 hP hD hS hl)
    · cases h
  | isub =>
    simp only [qp_step, qp_two] at h
    split at h
    · simp only [Option.some.injEq, Prod.mk.injEq] at h
      obtain ⟨rfl, rfl⟩ := h
      exact lv_isub hx hb hd (k ad H locs ls g1 g3 hP hD hS hl)
    · cases h
  | imul =>
    simp only [qp_step, qp_two] at h
    split at h
    · simp only [Option.some.injEq, Prod.mk.injEq] at h
      obtain ⟨rfl, rfl⟩ := h
      exact lv_imul hx hb hd (k ad H locs ls g1 g3 hP hD hS hl)
    · cases h
  | iand =>
    simp only [qp_step, qp_two] at h
    split at h
    · simp only [Option.some.injEq, Prod.mk.injEq] at h
      obtain ⟨rfl, rfl⟩ := h
      exact lv_iand hx hb hd (k ad H locs ls g1 g3 hP hD hS hl)
    · cases h
  | ior =>
    simp only [qp_step, qp_two] at h
    split at h
    · simp only [Option.some.injEq, Prod.mk.injEq] at h
      obtain ⟨rfl, rfl⟩ := h
      exact lv_ior hx hb hd (k ad H locs ls g1 g3 hP hD hS hl)
    · cases h
  | ixor =>
    simp only [qp_step, qp_two] at h
    split at h
    · simp only [Option.some.injEq, Prod.mk.injEq] at h
      obtain ⟨rfl, rfl⟩ := h
      exact lv_ixor hx hb hd (k ad H locs ls g1 g3 hP hD hS hl)
    · cases h
  | ishl =>
    simp only [qp_step, qp_two] at h
    split at h
    · simp only [Option.some.injEq, Prod.mk.injEq] at h
      obtain ⟨rfl, rfl⟩ := h
      exact lv_ishl hx hb hd (k ad H locs ls g1 g3 hP hD hS hl)
    · cases h
  | ishr =>
    simp only [qp_step, qp_two] at h
    split at h
    · simp only [Option.some.injEq, Prod.mk.injEq] at h
      obtain ⟨rfl, rfl⟩ := h
      exact lv_ishr hx hb hd (k ad H locs ls g1 g3 hP hD hS hl)
    · cases h
  | iushr =>
    simp only [qp_step, qp_two] at h
    split at h
    · simp only [Option.some.injEq, Prod.mk.injEq] at h
      obtain ⟨rfl, rfl⟩ := h
      exact lv_iushr hx hb hd rfl (k ad H locs ls g1 g3 hP hD hS hl)
    · cases h
  | idiv =>
    simp only [qp_step, qp_two] at h
    split at h
    · simp only [Option.some.injEq, Prod.mk.injEq] at h
      obtain ⟨rfl, rfl⟩ := h
      exact lv_idiv hx hb hd (hf _ rfl) (k ad H locs ls g1 g3 hP hD hS hl)
    · cases h
  | irem =>
    simp only [qp_step, qp_two] at h
    split at h
    · simp only [Option.some.injEq, Prod.mk.injEq] at h
      obtain ⟨rfl, rfl⟩ := h
      exact lv_irem hx hb hd (hf _ rfl) (k ad H locs ls g1 g3 hP hD hS hl)
    · cases h
  | ladd =>
    simp only [qp_step, qp_twoL] at h
    split at h
    · simp only [Option.some.injEq, Prod.mk.injEq] at h
      obtain ⟨rfl, rfl⟩ := h
      exact lv_ladd hx hb hd (k ad H locs ls g1 g3 hP hD hS hl)
    · cases h
  | lsub =>
    simp only [qp_step, qp_twoL] at h
    split at h
    · simp only [Option.some.injEq, Prod.mk.injEq] at h
      obtain ⟨rfl, rfl⟩ := h
      exact lv_lsub hx hb hd (k ad H locs ls g1 g3 hP hD hS hl)
    · cases h
  | lmul =>
    simp only [qp_step, qp_twoL] at h
    split at h
    · simp only [Option.some.injEq, Prod.mk.injEq] at h
      obtain ⟨rfl, rfl⟩ := h
      exact lv_lmul hx hb hd (k ad H locs ls g1 g3 hP hD hS hl)
    · cases h
  | ldiv =>
    simp only [qp_step, qp_twoL] at h
    split at h
    · simp only [Option.some.injEq, Prod.mk.injEq] at h
      obtain ⟨rfl, rfl⟩ := h
      exact lv_ldiv hx hb hd (hf _ rfl) (k ad H locs ls g1 g3 hP hD hS hl)
    · cases h
  | lrem =>
    simp only [qp_step, qp_twoL] at h
    split at h
    · simp only [Option.some.injEq, Prod.mk.injEq] at h
      obtain ⟨rfl, rfl⟩ := h
      exact lv_lrem hx hb hd (hf _ rfl) (k ad H locs ls g1 g3 hP hD hS hl)
    · cases h
  | ineg =>
    simp only [qp_step] at h
    split at h
    · simp only [Option.some.injEq, Prod.mk.injEq] at h
      obtain ⟨rfl, rfl⟩ := h
      exact lv_ineg hx hb hd (k ad H locs ls g1 g3 hP hD hS hl)
    · cases h
  | lcmp =>
    simp only [qp_step] at h
    split at h
    · simp only [Option.some.injEq, Prod.mk.injEq] at h
      obtain ⟨rfl, rfl⟩ := h
      exact W.lcmp hx hb hd (k ad H locs ls g1 g3 hP hD hS hl)
    · cases h
  | i2l =>
    simp only [qp_step] at h
    split at h
    · simp only [Option.some.injEq, Prod.mk.injEq] at h
      obtain ⟨rfl, rfl⟩ := h
      exact lv_i2l hx hb hd rfl (k ad H locs ls g1 g3 hP hD hS hl)
    · cases h
  | l2i =>
    simp only [qp_step] at h
    split at h
    · simp only [Option.some.injEq, Prod.mk.injEq] at h
      obtain ⟨rfl, rfl⟩ := h
      exact lv_l2i hx hb hd rfl (k ad H locs ls g1 g3 hP hD hS hl)
    · cases h
  | i2b =>
    simp only [qp_step] at h
    split at h
    · simp only [Option.some.injEq, Prod.mk.injEq] at h
      obtain ⟨rfl, rfl⟩ := h
      exact lv_i2b hx hb hd rfl (k ad H locs ls g1 g3 hP hD hS hl)
    · cases h
  | goto off =>
    simp only [qp_step, Option.some.injEq, Prod.mk.injEq] at h
    obtain ⟨rfl, rfl⟩ := h
    exact lv_goto hx hb hd (by simpa [qp_opd] using ho) (k ad H locs ls g1 g3 hP hD hS hl)
  | tableswitch df lo hi offs =>
    simp only [qp_step] at h
    split at h
    · next x st' =>
      simp only [Option.some.injEq, Prod.mk.injEq] at h
      obtain ⟨rfl, rfl⟩ := h
      have k0 := k ad H locs ls g1 g3 hP hD hS hl
      simp only [qp_opd, Bool.and_eq_true, decide_eq_true_eq] at ho
      obtain ⟨⟨o1, o2⟩, o3⟩ := ho
      dsimp only at k0
      unfold qp_swt at k0
      by_cases hc : x.toInt < lo ∨ hi < x.toInt
      · rw [if_pos hc] at k0
        exact lv_tableOut hx hb hd hc (Int.toNat_of_nonneg o1).symm k0
      · rw [if_neg hc] at k0
        have hlt : (x.toInt - lo).toNat < offs.size := by omega
        have hget : offs[(x.toInt - lo).toNat]? = some (offs[(x.toInt - lo).toNat]) := Array.getElem?_eq_getElem hlt
        have hgd : offs.getD (x.toInt - lo).toNat 0 = offs[(x.toInt - lo).toNat] := by simp [hlt]
        rw [hgd] at k0
        have h0 : (0 : Int) ≤ (pc : Int) + offs[(x.toInt - lo).toNat] := by
          have := (Array.all_eq_true.mp o2) _ hlt
          simpa using this
        exact lv_tableIn hx hb hd (fun q => hc (Or.inl q)) (fun q => hc (Or.inr q)) hget (Int.toNat_of_nonneg h0).symm k0
    · cases h
  | iaload =>
    simp only [qp_step, qp_aldI] at h
    split at h
    · next i r st' =>
      cases hb1 : Nat.beq r 1000 with
      | true =>
        rw [hb1] at h
        simp only [cond_true, Option.some.injEq, Prod.mk.injEq] at h
        obtain ⟨rfl, rfl⟩ := h
        have hr : r = 1000 := Nat.eq_of_beq_eq_true hb1
        subst hr
        have k0 := k ad H locs ls g1 g3 hP hD hS hl
        exact va_ti (t := ad 1000) (N := 6) (f := fun j => .int (qp_let j)) (v := .int (qp_let i.toNatClampNeg)) hx hb (by rw [g2]; exact hT) hS (hf _ rfl) rfl hd k0
      | false =>
        rw [hb1, cond_false] at h
        cases hb2 : (Nat.blt r M.2.2.2.2.1 && Nat.beq (M.2.2.2.1 r).1 50) with
        | false => rw [hb2] at h; cases h
        | true =>
          rw [hb2] at h
          simp only [cond_true, Option.some.injEq, Prod.mk.injEq] at h
          obtain ⟨rfl, rfl⟩ := h
          obtain ⟨b1, b2⟩ := qp_and hb2
          have ha := qp_w_at (G := G) (M := M) (ad := ad) (qp_blt b1)
          rw [qp_e_int (Nat.eq_of_beq_eq_true b2)] at ha
          exact va_iald hx hb hK hP r 0 ha rfl (hf _ rfl) hd (k ad H locs ls g1 g3 hP hD hS hl)
    · cases h
  | baload =>
    simp only [qp_step, qp_aldB] at h
    split at h
    · next i r st' =>
      cases hb2 : (Nat.blt r M.2.2.2.2.1 && Nat.beq (M.2.2.2.1 r).1 51) with
      | false => rw [hb2] at h; cases h
      | true =>
        rw [hb2] at h
        simp only [cond_true, Option.some.injEq, Prod.mk.injEq] at h
        obtain ⟨rfl, rfl⟩ := h
        obtain ⟨b1, b2⟩ := qp_and hb2
        have ha := qp_w_at (G := G) (M := M) (ad := ad) (qp_blt b1)
        rw [qp_e_boo (Nat.eq_of_beq_eq_true b2)] at ha
        exact va_zald hx hb hK hP r 1 ha rfl (hf _ rfl) hd (k ad H locs ls g1 g3 hP hD hS hl)
    · cases h
  | iastore =>
    simp only [qp_step, qp_astI] at h
    split at h
    · next x i r st' =>
      cases hb2 : (Nat.blt r M.2.2.2.2.1 && Nat.beq (M.2.2.2.1 r).1 50) with
      | false => rw [hb2] at h; cases h
      | true =>
        rw [hb2] at h
        simp only [cond_true, Option.some.injEq, Prod.mk.injEq] at h
        obtain ⟨rfl, rfl⟩ := h
        obtain ⟨b1, b2⟩ := qp_and hb2
        have b3 := Nat.eq_of_beq_eq_true b2
        have ha := qp_w_at (G := G) (M := M) (ad := ad) (qp_blt b1)
        rw [qp_e_int b3] at ha
        refine va_iast hx hb hK hP hD hS r 0 ha rfl (hf _ rfl) hd (fun H1 locs1 hP1 hD1 hS1 => ?_)
        have e := qp_w_set (G := G) (M := M) (M' := (qp_up M.1 r i.toNatClampNeg x, M.2)) (ad := ad) (r := r) (e := .inl (G.2.1, ((M.2.2.2.1 r).2, .inl (upd (M.1 r) i.toNatClampNeg x)))) rfl ((qp_e_int (M := (qp_up M.1 r i.toNatClampNeg x, M.2)) b3).trans (by show Sum.inl (G.2.1, ((M.2.2.2.1 r).2, Sum.inl (qp_up M.1 r i.toNatClampNeg x r))) = _; rw [qp_up_upd])) (fun k' hk' => qp_e_same (qp_up_row hk') rfl rfl rfl)
        rw [e] at hP1 hD1
        exact k ad H1 locs1 ls g1 g3 hP1 hD1 hS1 hl
    · cases h
  | bastore =>
    simp only [qp_step, qp_astB] at h
    split at h
    · next x i r st' =>
      cases hb2 : (Nat.blt r M.2.2.2.2.1 && Nat.beq (M.2.2.2.1 r).1 51) with
      | false => rw [hb2] at h; cases h
      | true =>
        rw [hb2] at h
        simp only [cond_true, Option.some.injEq, Prod.mk.injEq] at h
        obtain ⟨rfl, rfl⟩ := h
        obtain ⟨b1, b2⟩ := qp_and hb2
        have b3 := Nat.eq_of_beq_eq_true b2
        have ha := qp_w_at (G := G) (M := M) (ad := ad) (qp_blt b1)
        rw [qp_e_boo b3] at ha
        have hf2 := hf _ rfl
        refine va_zast hx hb hK hP hD hS r 1 ha rfl hf2.1 hd (fun H1 locs1 hP1 hD1 hS1 => ?_)
        rw [hf2.2] at hP1 hD1
        have e := qp_w_set (G := G) (M := M) (M' := (qp_up M.1 r i.toNatClampNeg x, M.2)) (ad := ad) (r := r) (e := .inl (G.2.2, ((M.2.2.2.1 r).2, .inl (upd (M.1 r) i.toNatClampNeg x)))) rfl ((qp_e_boo (M := (qp_up M.1 r i.toNatClampNeg x, M.2)) b3).trans (by show Sum.inl (G.2.2, ((M.2.2.2.1 r).2, Sum.inl (qp_up M.1 r i.toNatClampNeg x r))) = _; rw [qp_up_upd])) (fun k' hk' => qp_e_same (qp_up_row hk') rfl rfl rfl)
        rw [e] at hP1 hD1
        exact k ad H1 locs1 ls g1 g3 hP1 hD1 hS1 hl
    · cases h
  | arraylength =>
    simp only [qp_step, qp_aln] at h
    split at h
    · next r st' =>
      cases hb1 : Nat.beq r 1000 with
      | true =>
        rw [hb1] at h
        simp only [cond_true, Option.some.injEq, Prod.mk.injEq] at h
        obtain ⟨rfl, rfl⟩ := h
        have hr : r = 1000 := Nat.eq_of_beq_eq_true hb1
        subst hr
        exact va_tlen (t := ad 1000) hx hb (by rw [g2]; exact hT) hS rfl hd (k ad H locs ls g1 g3 hP hD hS hl)
      | false =>
        rw [hb1, cond_false] at h
        cases hb2 : (Nat.blt r M.2.2.2.2.1 && Nat.ble 50 (M.2.2.2.1 r).1) with
        | false => rw [hb2] at h; cases h
        | true =>
          rw [hb2] at h
          simp only [cond_true, Option.some.injEq, Prod.mk.injEq] at h
          obtain ⟨rfl, rfl⟩ := h
          obtain ⟨b1, b2⟩ := qp_and hb2
          have ha := qp_w_at (G := G) (M := M) (ad := ad) (qp_blt b1)
          have hobj := hP r _ ha
          by_cases c1 : (M.2.2.2.1 r).1 = 50
          · rw [qp_e_int c1] at ha
            exact va_alen hx hb hK hP r 0 ha rfl rfl hd (k ad H locs ls g1 g3 hP hD hS hl)
          · by_cases c2 : (M.2.2.2.1 r).1 = 51
            · rw [qp_e_boo c2] at ha
              exact va_alen hx hb hK hP r 1 ha rfl rfl hd (k ad H locs ls g1 g3 hP hD hS hl)
            · have e1 : Nat.beq (M.2.2.2.1 r).1 50 = false := Bool.eq_false_iff.mpr (fun q => c1 (Nat.eq_of_beq_eq_true q))
              have e2 : Nat.beq (M.2.2.2.1 r).1 51 = false := Bool.eq_false_iff.mpr (fun q => c2 (Nat.eq_of_beq_eq_true q))
              have e3 : qp_e G M ad r = .inr ((M.2.2.2.1 r).1, qp_fs M ad r) := by unfold qp_e; rw [e1, e2]; rfl
              rw [e3] at hobj
              obtain ⟨r', h1, -⟩ := hobj
              have hl1 := (List.getElem?_eq_some_iff.mp h1).1
              have hl2 := Nat.le_of_ble_eq_true b2
              simp [qp_cl] at hl1
              omega
    · cases h
  | getfield ix =>
    simp only [qp_step, qp_gtf] at h
    split at h
    · next r st' =>
      cases hb2 : (Nat.blt r M.2.2.2.2.1 && (Nat.beq (M.2.2.2.1 r).1 (t / 100) && Nat.blt (t % 100) (M.2.2.2.1 r).2)) with
      | false => rw [hb2] at h; cases h
      | true =>
        rw [hb2] at h
        simp only [cond_true, Option.some.injEq, Prod.mk.injEq] at h
        obtain ⟨rfl, rfl⟩ := h
        obtain ⟨b1, b2⟩ := qp_and hb2
        obtain ⟨b3, b4⟩ := qp_and b2
        have b5 := Nat.eq_of_beq_eq_true b3
        have hlk : qp_lk (qp_fR o) ix = some t := by simpa [qp_opd] using ho
        obtain ⟨m1, m2⟩ := qp_mFN hlk
        have ha := qp_w_at (G := G) (M := M) (ad := ad) (qp_blt b1)
        rw [qp_e_obj b5 (by omega)] at ha
        have hv := qp_fs_at (M := M) (ad := ad) (r := r) (qp_blt b4)
        rw [b5] at hv
        exact va_get (C := qp_R (t / 100)) (T := qp_T (t / 100)) (N := qp_N (t / 100)) (ci := t / 100) hx hb hts (qp_mU m1) hown hK hP r ha (qp_cl_at m1) (t % 100) m2 (hts _ (qp_mF hlk)) (fun _ h9 => h9) hv hd (k ad H locs ls g1 g3 hP hD hS hl)
    · cases h
  | putfield ix =>
    simp only [qp_step, qp_ptf] at h
    split at h
    · next v0 r st' =>
      cases hb2 : (Nat.blt r M.2.2.2.2.1 && (Nat.beq (M.2.2.2.1 r).1 (t / 100) && (Nat.blt (t % 100) (M.2.2.2.1 r).2 && ((ini && Nat.beq (t / 100) o) || !qp_fin (t / 100) (t % 100))))) with
      | false => rw [hb2] at h; cases h
      | true =>
        rw [hb2, cond_true] at h
        split at h
        · next M' hM' =>
          simp only [Option.some.injEq, Prod.mk.injEq] at h
          obtain ⟨rfl, rfl⟩ := h
          obtain ⟨b1, b2⟩ := qp_and hb2
          obtain ⟨b3, b4⟩ := qp_and b2
          obtain ⟨b6, b7⟩ := qp_and b4
          have b5 := Nat.eq_of_beq_eq_true b3
          have hlk : qp_lk (qp_fR o) ix = some t := by simpa [qp_opd] using ho
          obtain ⟨m1, m2⟩ := qp_mFN hlk
          have ha := qp_w_at (G := G) (M := M) (ad := ad) (qp_blt b1)
          rw [qp_e_obj b5 (by omega)] at ha
          have hft := qp_hft _ m1 _ m2
          have key : (narrow (qp_ty (t / 100) (t % 100)) (qp_tr ad v0) = qp_tr ad v0) ∧ fits (qp_ty (t / 100) (t % 100)) (qp_tr ad v0) = true ∧ (qp_w G M ad).set r (ad r, .inr (t / 100, (qp_fs M ad r).set (t % 100) (qp_tr ad v0))) = qp_w G M' ad ∧ M'.2.2.2.2 = M.2.2.2.2 := by
            unfold qp_put at hM'
            split at hM'
            · next x hft0 =>
              rw [hft0] at hft
              have hty : qp_ty (t / 100) (t % 100) = .int := by simpa using hft
              simp only [Option.some.injEq] at hM'
              subst hM'
              refine ⟨by rw [hty]; rfl, by rw [hty]; rfl, ?_, rfl⟩
              refine qp_w_set rfl ?_ (fun k' hk' => qp_e_same (qp_up_row hk') rfl rfl rfl)
              rw [qp_e_obj (M := (qp_up M.1 r (t % 100) x, M.2)) b5 (by omega)]
              rw [qp_fs_set (M := M) (M' := (qp_up M.1 r (t % 100) x, M.2)) (k := t % 100) (w := .int x) rfl (by rw [b5]; unfold qp_get; rw [hft0]; show qp_tr ad (.int (qp_up M.1 r (t % 100) x r (t % 100))) = _; rw [qp_up_eq]; rfl) (fun j hj => qp_get_ne (qp_up_nj hj) rfl rfl)]
              rfl
            · next x hft0 =>
              rw [hft0] at hft
              have hty : qp_ty (t / 100) (t % 100) = .long := by simpa using hft
              simp only [Option.some.injEq] at hM'
              subst hM'
              refine ⟨by rw [hty]; rfl, by rw [hty]; rfl, ?_, rfl⟩
              refine qp_w_set rfl ?_ (fun k' hk' => qp_e_same rfl (qp_up_row hk') rfl rfl)
              rw [qp_e_obj (M := (M.1, qp_up M.2.1 r (t % 100) x, M.2.2)) b5 (by omega)]
              rw [qp_fs_set (M := M) (M' := (M.1, qp_up M.2.1 r (t % 100) x, M.2.2)) (k := t % 100) (w := .long x) rfl (by rw [b5]; unfold qp_get; rw [hft0]; show qp_tr ad (.long (qp_up M.2.1 r (t % 100) x r (t % 100))) = _; rw [qp_up_eq]; rfl) (fun j hj => qp_get_ne rfl (qp_up_nj hj) rfl)]
              rfl
            · next q hft0 =>
              rw [hft0] at hft
              simp only [Option.some.injEq] at hM'
              subst hM'
              refine ⟨?_, ?_, ?_, rfl⟩
              · revert hft; cases qp_ty (t / 100) (t % 100) <;> intro hft <;> first | rfl | (exact absurd hft (by simp [qp_isr]))
              · revert hft; cases qp_ty (t / 100) (t % 100) <;> intro hft <;> first | rfl | (exact absurd hft (by simp [qp_isr]))
              refine qp_w_set rfl ?_ (fun k' hk' => qp_e_same rfl rfl (qp_up_row hk') rfl)
              rw [qp_e_obj (M := (M.1, M.2.1, qp_up M.2.2.1 r (t % 100) (some q), M.2.2.2)) b5 (by omega)]
              rw [qp_fs_set (M := M) (M' := (M.1, M.2.1, qp_up M.2.2.1 r (t % 100) (some q), M.2.2.2)) (k := t % 100) (w := .ref (ad q)) rfl (by rw [b5]; unfold qp_get; rw [hft0]; show qp_tr ad (va_rf (qp_up M.2.2.1 r (t % 100) (some q) r (t % 100))) = _; rw [qp_up_eq]; rfl) (fun j hj => qp_get_ne rfl rfl (qp_up_nj hj))]
              rfl
            · cases hM'
          obtain ⟨k1, k2, k3, k4⟩ := key
          have hlen : t % 100 < (qp_fs M ad r).length := by simpa [qp_fs] using qp_blt b6
          have kk : ∀ (H1 : Heap) (locs1 : List Loc), va_P G.1 qp_cl ((qp_w G M ad).set r (ad r, .inr (t / 100, (qp_fs M ad r).set (t % 100) (qp_tr ad v0)))) H1 → va_D A ((qp_w G M ad).set r (ad r, .inr (t / 100, (qp_fs M ad r).set (t % 100) (qp_tr ad v0)))) → va_S A s.heap H1 locs1 → W p l e R s m args below meth cd H1 locs1 (M.2.2.2.2.1 - n0) (M.2.2.2.2.2 - q0) Z (F0 m (pc + 3) ls (st'.map (qp_tr ad))) := by
            intro H1 locs1 hP1 hD1 hS1
            rw [k3] at hP1 hD1
            have k0 := k ad H1 locs1 ls (by dsimp only; rw [k4]; exact g1) (by dsimp only; rw [k4]; exact g3) hP1 hD1 hS1 hl
            dsimp only at k0
            rw [k4] at k0
            exact k0
          cases hfn : qp_fin (t / 100) (t % 100) with
          | false =>
            exact va_put (C := qp_R (t / 100)) (T := qp_T (t / 100)) (N := qp_N (t / 100)) (ci := t / 100) hx hb hts (qp_mU m1) (qp_ty (t / 100)) (qp_hty _ m1) (qp_hnm _ m1) hown hK hP hD hS r ha (qp_cl_at m1) (t % 100) m2 (hts _ (qp_mF hlk)) (fun _ h9 => h9) (by rw [qp_hfin _ m1 _ m2]; exact hfn) (qp_hty _ m1 _ m2) k1 k2 hlen hd kk
          | true =>
            rw [hfn] at b7
            simp only [Bool.not_true, Bool.or_false, Bool.and_eq_true] at b7
            exact va_putF (C := qp_R (t / 100)) (T := qp_T (t / 100)) (N := qp_N (t / 100)) (ci := t / 100) hx hb hts (qp_mU m1) (qp_ty (t / 100)) (qp_hty _ m1) (qp_hnm _ m1) hown hK hP hD hS r ha (qp_cl_at m1) (t % 100) m2 (hts _ (qp_mF hlk)) (fun _ h9 => h9) (by rw [qp_hfin _ m1 _ m2]; exact hfn) (hin b7.1) (by show qp_R (t / 100) = _; rw [Nat.eq_of_beq_eq_true b7.2]) (qp_hty _ m1 _ m2) k1 k2 hlen hd kk
        · cases h
    · cases h
  | getstatic ix =>
    simp only [qp_step, qp_psh, Option.some.injEq, Prod.mk.injEq] at h
    obtain ⟨rfl, rfl⟩ := h
    have k0 := k ad H locs ls g1 g3 hP hD hS hl
    refine qp_getstatic X0 (by simpa [qp_opd] using ho) hd hS ?_
    rw [← g2]
    exact k0
  | invokespecial ix =>
    simp only [qp_step] at h
    cases hb1 : Nat.beq t 5 with
    | false => rw [hb1] at h; cases h
    | true =>
      rw [hb1, cond_true] at h
      split at h
      · next r st' =>
        cases hb2 : Nat.ble (qp_cat st') 8 with
        | false => rw [hb2] at h; cases h
        | true =>
          rw [hb2] at h
          simp only [cond_true, Option.some.injEq, Prod.mk.injEq] at h
          obtain ⟨rfl, rfl⟩ := h
          have ht : t = 5 := Nat.eq_of_beq_eq_true hb1
          subst ht
          have hlk : qp_lk (qp_iR o) ix = some 5 := by simpa [qp_opd] using ho
          have hw := qp_mV hlk rfl
          refine W.objInit hx hb hown (idx := ix) (hts _ hw) (hts _ qp_mO2) (hts _ qp_mO1) rfl (by rw [hml]; exact hl.1) rfl hd hR.1 ?_ (k ad H locs ls g1 g3 hP hD hS hl)
          show 2 * 0 + ((st'.map (qp_tr ad)).map (fun v => v.category)).sum + 12 ≤ _
          rw [qp_cat_tr]
          have := Nat.le_of_ble_eq_true hb2
          omega
      · cases h
  | new ix =>
    simp only [qp_step, qp_nw, Option.some.injEq, Prod.mk.injEq] at h
    obtain ⟨rfl, rfl⟩ := h
    obtain ⟨f1, f2⟩ := qp_and (hf _ rfl)
    obtain ⟨f3, f4, f5⟩ := qp_fit_of f1
    have f3' : M.2.2.2.2.1 + 1 ≤ lim.1 := f3
    have f4' : M.2.2.2.2.2 + qp_N t ≤ lim.2 := f4
    have f5' : M.2.2.2.2.1 + 1 ≤ 900 := f5
    have hlk : qp_lk (qp_nR o) ix = some t := by simpa [qp_opd] using ho
    have m1 := qp_mCN hlk
    refine va_new (C := qp_R t) (T := qp_T t) (N := qp_N t) (ci := t) (fs := (List.range (qp_N t)).map (fun k => defaultValue (qp_ty t k))) hx hb hts (qp_mU m1) (qp_ty t) (qp_hty _ m1) hown (hts _ (qp_mC hlk)) (hts _ (qp_mI m1)) (hts _ (qp_mZ (by omega))) hK hP hD hS hA (qp_cl_at m1) (fun j hj => by simp [vp_V, hj]) (by omega) (by omega) hd (fun q H1 hP1 hD1 hS1 => ?_)
    have a1 : ∀ k', k' < M.2.2.2.2.1 → qp_up1 ad M.2.2.2.2.1 q k' = ad k' := fun k' hk' => qp_up1_ne (by omega)
    have a2 : qp_up1 ad M.2.2.2.2.1 q 1000 = ad 1000 := qp_up1_ne (by omega)
    obtain ⟨n1, n2, n3⟩ := qp_known (G := G) (tag := t) (n := qp_N t) a1 a2 f2
    obtain ⟨z1, z2, z3, z4⟩ := qp_mk1_new (M := M) (tag := t) (n := qp_N t)
    have e0 : qp_e G (qp_mk1 M t (qp_N t)) (qp_up1 ad M.2.2.2.2.1 q) M.2.2.2.2.1 = .inr (t, (List.range (qp_N t)).map (fun k => defaultValue (qp_ty t k))) := by
      rw [qp_e_obj (by rw [z4]) (by omega)]
      congr 2
      unfold qp_fs
      rw [z4]
      apply List.map_congr_left
      intro j hj
      have hft := qp_hft _ m1 j (List.mem_range.mp hj)
      unfold qp_get
      split at hft
      · next h0 => rw [h0]; show qp_tr _ (.int ((qp_mk1 M t (qp_N t)).1 M.2.2.2.2.1 j)) = _; rw [z1, of_decide_eq_true hft]; rfl
      · next h0 => rw [h0]; show qp_tr _ (.long ((qp_mk1 M t (qp_N t)).2.1 M.2.2.2.2.1 j)) = _; rw [z2, of_decide_eq_true hft]; rfl
      · next h0 =>
        rw [h0]; show qp_tr _ (va_rf ((qp_mk1 M t (qp_N t)).2.2.1 M.2.2.2.2.1 j)) = _; rw [z3]
        revert hft
        cases qp_ty t j <;> intro hft <;> first | rfl | (exact absurd hft (by simp [qp_isr]))
      · cases hft
    have e1 := qp_w_app (G := G) (M := M) (M' := qp_mk1 M t (qp_N t)) (ad := ad) (ad' := qp_up1 ad M.2.2.2.2.1 q) rfl e0 a1 n3
    rw [qp_up1_eq] at e1
    rw [e1] at hP1 hD1
    have k0 := k (qp_up1 ad M.2.2.2.2.1 q) H1 locs ls (fun k' hk' => by
      have hk2 : k' < n0 ∨ M.2.2.2.2.1 + 1 ≤ k' := hk'
      rw [qp_up1_ne (by omega)]
      exact g1 k' (by omega)) ⟨by show n0 ≤ M.2.2.2.2.1 + 1; omega, by show q0 ≤ M.2.2.2.2.2 + qp_N t; omega, f5⟩ hP1 hD1 hS1 (qp_Ls_kn hl n1)
    dsimp only at k0
    have e2 : (Value.ref M.2.2.2.2.1 :: st).map (qp_tr (qp_up1 ad M.2.2.2.2.1 q)) = .ref q :: st.map (qp_tr ad) := by
      rw [List.map_cons, n2]
      show Value.ref _ :: _ = _
      rw [qp_up1_eq]
    rw [e2] at k0
    refine W.cs ?_ ?_ k0
    · show _ = M.2.2.2.2.1 + 1 - n0; omega
    · show _ = M.2.2.2.2.2 + qp_N t - q0; omega
  | newarray ty =>
    have hcase : (ty = .int ∧ qp_nwa lim 50 (pc, L, st, M) = some (f, c')) ∨ (ty = .boolean ∧ qp_nwa lim 51 (pc, L, st, M) = some (f, c')) := by
      cases ty <;> first | exact Or.inl ⟨rfl, h⟩ | exact Or.inr ⟨rfl, h⟩ | (simp [qp_step] at h)
    rcases hcase with ⟨rfl, hn⟩ | ⟨rfl, hn⟩
    · clear h
      have h := hn
      simp only [qp_nwa] at h
      split at h
      · next nn st' =>
        simp only [Option.some.injEq, Prod.mk.injEq] at h
        obtain ⟨rfl, rfl⟩ := h
        obtain ⟨p1, p2, p3⟩ := hf _ rfl
        obtain ⟨f1, f2⟩ := qp_and p3
        obtain ⟨f3, f4, f5⟩ := qp_fit_of f1
        have f3' : M.2.2.2.2.1 + 1 ≤ lim.1 := f3
        have f4' : M.2.2.2.2.2 + nn.toNatClampNeg ≤ lim.2 := f4
        have f5' : M.2.2.2.2.1 + 1 ≤ 900 := f5
        refine va_newa (atype := .int) (ty := .int) (a0 := (nn.toNatClampNeg, .inl (fun _ => 0))) hx hb (hts _ qp_mA1) rfl hK hP hD hS hA (fun _ => rfl) p1 rfl (by show _ * 4 ≤ _; omega) (by omega) (by omega) hd (fun q cA H1 hK1 hP1 hD1 hS1 => ?_)
        have ecA : cA = G.2.1 := by
          have r1 : s.vm.findClass ("[" ++ (FieldType.int).toString) = some cA := (hK1.2 2 (cA, .int) rfl).2
          have r2 : s.vm.findClass ("[" ++ (FieldType.int).toString) = some G.2.1 := (hK.2 0 (G.2.1, .int) rfl).2
          rw [r1] at r2
          exact Option.some.inj r2
        subst ecA
        have a1 : ∀ k', k' < M.2.2.2.2.1 → qp_up1 ad M.2.2.2.2.1 q k' = ad k' := fun k' hk' => qp_up1_ne (by omega)
        have a2 : qp_up1 ad M.2.2.2.2.1 q 1000 = ad 1000 := qp_up1_ne (by omega)
        obtain ⟨n1, n2, n3⟩ := qp_known (G := G) (tag := 50) (n := nn.toNatClampNeg) a1 a2 f2
        obtain ⟨z1, z2, z3, z4⟩ := qp_mk1_new (M := M) (tag := 50) (n := nn.toNatClampNeg)
        have e0 : qp_e G (qp_mk1 M 50 nn.toNatClampNeg) (qp_up1 ad M.2.2.2.2.1 q) M.2.2.2.2.1 = .inl (G.2.1, (nn.toNatClampNeg, .inl (fun _ => 0))) := by
          rw [qp_e_int (by rw [z4]), z4]
          congr 3
          exact congrArg Sum.inl (funext z1)
        have e1 := qp_w_app (G := G) (M := M) (M' := qp_mk1 M 50 nn.toNatClampNeg) (ad := ad) (ad' := qp_up1 ad M.2.2.2.2.1 q) rfl e0 a1 n3
        rw [qp_up1_eq] at e1
        rw [e1] at hP1 hD1
        have k0 := k (qp_up1 ad M.2.2.2.2.1 q) H1 locs ls (fun k' hk' => by
          have hk2 : k' < n0 ∨ M.2.2.2.2.1 + 1 ≤ k' := hk'
          rw [qp_up1_ne (by omega)]
          exact g1 k' (by omega)) ⟨by show n0 ≤ M.2.2.2.2.1 + 1; omega, by show q0 ≤ M.2.2.2.2.2 + nn.toNatClampNeg; omega, f5⟩ hP1 hD1 hS1 (qp_Ls_kn hl n1)
        dsimp only at k0
        have e2 : (Value.ref M.2.2.2.2.1 :: st').map (qp_tr (qp_up1 ad M.2.2.2.2.1 q)) = .ref q :: st'.map (qp_tr ad) := by
          have n2' : (st'.map (qp_tr (qp_up1 ad M.2.2.2.2.1 q))) = st'.map (qp_tr ad) := (List.cons.inj n2).2
          rw [List.map_cons, n2']
          show Value.ref _ :: _ = _
          rw [qp_up1_eq]
        rw [e2] at k0
        refine W.cs ?_ ?_ k0
        · show _ = M.2.2.2.2.1 + 1 - n0; omega
        · show _ = M.2.2.2.2.2 + nn.toNatClampNeg - q0; omega
      · cases h
    · clear h
      have h := hn
      simp only [qp_nwa] at h
      split at h
      · next nn st' =>
        simp only [Option.some.injEq, Prod.mk.injEq] at h
        obtain ⟨rfl, rfl⟩ := h
        obtain ⟨p1, p2, p3⟩ := hf _ rfl
        obtain ⟨f1, f2⟩ := qp_and p3
        obtain ⟨f3, f4, f5⟩ := qp_fit_of f1
        have f3' : M.2.2.2.2.1 + 1 ≤ lim.1 := f3
        have f4' : M.2.2.2.2.2 + nn.toNatClampNeg ≤ lim.2 := f4
        have f5' : M.2.2.2.2.1 + 1 ≤ 900 := f5
        refine va_newa (atype := .boolean) (ty := .boolean) (a0 := (nn.toNatClampNeg, .inl (fun _ => 0))) hx hb (hts _ qp_mA2) rfl hK hP hD hS hA (fun _ => rfl) p1 rfl (by show _ * 1 ≤ _; omega) (by omega) (by omega) hd (fun q cA H1 hK1 hP1 hD1 hS1 => ?_)
        have ecA : cA = G.2.2 := by
          have r1 : s.vm.findClass ("[" ++ (FieldType.boolean).toString) = some cA := (hK1.2 2 (cA, .boolean) rfl).2
          have r2 : s.vm.findClass ("[" ++ (FieldType.boolean).toString) = some G.2.2 := (hK.2 1 (G.2.2, .boolean) rfl).2
          rw [r1] at r2
          exact Option.some.inj r2
        subst ecA
        have a1 : ∀ k', k' < M.2.2.2.2.1 → qp_up1 ad M.2.2.2.2.1 q k' = ad k' := fun k' hk' => qp_up1_ne (by omega)
        have a2 : qp_up1 ad M.2.2.2.2.1 q 1000 = ad 1000 := qp_up1_ne (by omega)
        obtain ⟨n1, n2, n3⟩ := qp_known (G := G) (tag := 51) (n := nn.toNatClampNeg) a1 a2 f2
        obtain ⟨z1, z2, z3, z4⟩ := qp_mk1_new (M := M) (tag := 51) (n := nn.toNatClampNeg)
        have e0 : qp_e G (qp_mk1 M 51 nn.toNatClampNeg) (qp_up1 ad M.2.2.2.2.1 q) M.2.2.2.2.1 = .inl (G.2.2, (nn.toNatClampNeg, .inl (fun _ => 0))) := by
          rw [qp_e_boo (by rw [z4]), z4]
          congr 3
          exact congrArg Sum.inl (funext z1)
        have e1 := qp_w_app (G := G) (M := M) (M' := qp_mk1 M 51 nn.toNatClampNeg) (ad := ad) (ad' := qp_up1 ad M.2.2.2.2.1 q) rfl e0 a1 n3
        rw [qp_up1_eq] at e1
        rw [e1] at hP1 hD1
        have k0 := k (qp_up1 ad M.2.2.2.2.1 q) H1 locs ls (fun k' hk' => by
          have hk2 : k' < n0 ∨ M.2.2.2.2.1 + 1 ≤ k' := hk'
          rw [qp_up1_ne (by omega)]
          exact g1 k' (by omega)) ⟨by show n0 ≤ M.2.2.2.2.1 + 1; omega, by show q0 ≤ M.2.2.2.2.2 + nn.toNatClampNeg; omega, f5⟩ hP1 hD1 hS1 (qp_Ls_kn hl n1)
        dsimp only at k0
        have e2 : (Value.ref M.2.2.2.2.1 :: st').map (qp_tr (qp_up1 ad M.2.2.2.2.1 q)) = .ref q :: st'.map (qp_tr ad) := by
          have n2' : (st'.map (qp_tr (qp_up1 ad M.2.2.2.2.1 q))) = st'.map (qp_tr ad) := (List.cons.inj n2).2
          rw [List.map_cons, n2']
          show Value.ref _ :: _ = _
          rw [qp_up1_eq]
        rw [e2] at k0
        refine W.cs ?_ ?_ k0
        · show _ = M.2.2.2.2.1 + 1 - n0; omega
        · show _ = M.2.2.2.2.2 + nn.toNatClampNeg - q0; omega
      · cases h
  | _ => simp [qp_step] at h
end QPS
end
section
/-! THE RULES: calls by contract, ends, and what a method's contract is -/
def qp_B (G : qp_G) (M : qp_M) (ad : Nat → Nat) (sz : Nat) (U : State) : Prop :=
  U.heap.size = sz ∧ va_P G.1 qp_cl (qp_w G M ad) U.heap ∧ va_K G.1 qp_cl (qp_tys G) U ∧ va_D (fun _ => True) (qp_w G M ad) ∧ (va_Z "QueuePlaces" "LETTERS" "[I" (.ref (ad 1000)) (va_A (qp_w G M ad) sz) U U.heap ∧ va_T .int (ad 1000) 6 (fun j => .int (qp_let j)) (va_A (qp_w G M ad) sz) U U.heap) ∧ ∀ w ∈ qp_nest, va_Nw w U
def qp_Qf (G : qp_G) (M : qp_M) (ad : Nat → Nat) (sz mc ms : Nat) (Q : Option Value → qp_M → Prop) (st : State) (oc : Outcome) (t : State) : Prop :=
  (∃ (r : Option Value) (M' : qp_M) (ad' : Nat → Nat), Q r M' ∧ oc = .returned (r.map (qp_tr ad')) ∧ (∀ k, (k < M.2.2.2.2.1 ∨ M'.2.2.2.2.1 ≤ k) → ad' k = ad k) ∧ (M'.2.2.2.2.1 = M.2.2.2.2.1 + mc ∧ M'.2.2.2.2.2 = M.2.2.2.2.2 + ms ∧ M'.2.2.2.2.1 ≤ 900) ∧ va_P G.1 qp_cl (qp_w G M' ad') t.heap ∧ va_D (va_A (qp_w G M ad) sz) (qp_w G M' ad')) ∧ va_F (va_A (qp_w G M ad) sz) st t
/-- a method's contract: called with these arguments over this memory (by at most d frames above it) it returns, and Q holds of what it answers and of the memory then -/
def qp_Met (l : Launch) (G : qp_G) (d mi : Nat) (av : List Value) (M : qp_M) (mc ms : Nat) (Q : Option Value → qp_M → Prop) : Prop :=
  M.2.2.2.2.1 ≤ 900 → ∀ (ad : Nat → Nat) (sz : Nat), Met l (qp_y mi) (qp_cw mi :: qp_tb) ({ frames := d, cells := mc, slots := ms, locals := 64 * d } : Room) (va_Pc (av.map (qp_tr ad)) (qp_B G M ad sz)) (fun _ st o t => qp_Qf G M ad sz mc ms Q st o t) mc ms (va_A (qp_w G M ad) sz)
theorem qp_nest_warm {s U : State} (hW : s.WarmedH U.vm) (h : ∀ w ∈ qp_nest, va_Nw w s) : ∀ w ∈ qp_nest, va_Nw w U := by
  intro w hw
  have h0 := h w hw
  unfold qp_nest at hw
  rcases List.mem_append.mp hw with h1 | h1
  · obtain ⟨o, -, h2⟩ := List.mem_flatMap.mp h1
    obtain ⟨q, -, rfl⟩ := List.mem_map.mp h2
    exact va_Nw.warmM hW h0
  · simp only [List.mem_cons, List.not_mem_nil, or_false] at h1
    subst h1
    exact va_Nw.warmF hW h0
theorem qp_goodIn {ws : List Cond} (h : ∀ w ∈ ws, w ∈ qp_tb) : GoodIn qp_tb ws := fun w hw => ⟨h w hw, good_of_word (qp_tb_good (h w hw)).2⟩
theorem qp_B_blind {G : qp_G} {M : qp_M} {ad : Nat → Nat} {sz : Nat} {av : List Value} : FrameBlind (va_Pc av (qp_B G M ad sz)) := by
  intro a U g mk q
  obtain ⟨q0, q1, qP, qK, qD, ⟨qZ, qT⟩, qN⟩ := q
  exact ⟨q0, q1, qP, va_K.moved (u := U) (U := U.calling g mk a) (Vm.Alike.refl U.vm) qK, qD, ⟨va_Z.moved (u := U) (U := U.calling g mk a) (Vm.Alike.refl U.vm) qZ, va_T.moved (u := U) (U := U.calling g mk a) (Vm.Alike.refl U.vm) qT⟩, fun w hw => va_Nw.same (u := U) (U := U.calling g mk a) (by
    unfold qp_nest at hw
    rcases List.mem_append.mp hw with h1 | h1
    · obtain ⟨o, -, h2⟩ := List.mem_flatMap.mp h1
      obtain ⟨q, -, rfl⟩ := List.mem_map.mp h2
      rfl
    · simp only [List.mem_cons, List.not_mem_nil, or_false] at h1
      subst h1
      rfl) rfl (qN w hw)⟩
def qp_kl (n : Nat) (L : List (Option Value)) (rest : List Value) : Bool := L.all (fun x => match x with | some v => qp_kn n v | none => true) && rest.all (qp_kn n)
section QPC
variable {p : Program} {l : Launch} {e : Env} {R : Room} {s : State} {m : MethodId} {args : Array Value} {below : List Frame} {meth : Method} {cd : Code} {G : qp_G} {o : Nat} {bs : ByteArray} {nL : Nat} {ini : Bool} {A : Nat → Prop} {n0 q0 : Nat} {ad0 : Nat → Nat} {Z : State → Prop} {lim : Nat × Nat}
theorem qp_run_W (X : qp_X p s m args meth cd G o bs nL ini A (ad0 1000)) {K : List (List (Nat × Instr × Int32 × Nat))} (hK : qp_ok o bs K) (hlim : lim.1 ≤ n0 + R.cells ∧ lim.2 ≤ q0 + R.slots) (hR : 1 ≤ R.frames ∧ 40 ≤ R.locals) :
    ∀ (n : Nat) {c c' : qp_C} {f : Prop}, qp_run lim o ini K n c = some (f, c') → f → qp_V p l e R s m args below meth cd G nL A n0 q0 ad0 Z c' → qp_V p l e R s m args below meth cd G nL A n0 q0 ad0 Z c
  | 0, c, c', f, h, hf, k => by
    simp only [qp_run, Option.some.injEq, Prod.mk.injEq] at h
    rw [h.2]; exact k
  | n + 1, c, c', f, h, hf, k => by
    unfold qp_run at h
    split at h
    · next en hen =>
      obtain ⟨hd, ho⟩ := hK _ _ hen
      split at h
      · next c1 hc1 =>
        exact qp_W1 X hd ho hc1 (fun q hq => by cases hq) hlim hR (qp_run_W X hK hlim hR n h hf k)
      · next pr c1 hc1 =>
        split at h
        · next q c2 hc2 =>
          simp only [Option.some.injEq, Prod.mk.injEq] at h
          obtain ⟨rfl, rfl⟩ := h
          exact qp_W1 X hd ho hc1 (fun q' hq => by cases hq; exact hf.1) hlim hR (qp_run_W X hK hlim hR n hc2 hf.2 k)
        · cases h
      · cases h
    · cases h
theorem qp_br_W (X : qp_X p s m args meth cd G o bs nL ini A (ad0 1000)) {K : List (List (Nat × Instr × Int32 × Nat))} (hK : qp_ok o bs K) {c ct cf : qp_C} {f : Prop} (h : qp_br K c = some (f, ct, cf))
    (kt : f → qp_V p l e R s m args below meth cd G nL A n0 q0 ad0 Z ct) (kf : ¬ f → qp_V p l e R s m args below meth cd G nL A n0 q0 ad0 Z cf) : qp_V p l e R s m args below meth cd G nL A n0 q0 ad0 Z c := by
  obtain ⟨hx, hb, hml, hown, hts, hin, hK', hA, ⟨hZ, hT⟩, hN⟩ := X
  unfold qp_br at h
  split at h
  · next en hen =>
    obtain ⟨hd, ho⟩ := hK _ _ hen
    obtain ⟨i, v, t⟩ := en
    obtain ⟨pc, L, st, M⟩ := c
    dsimp only at h hd ho
    split at h
    · next cc8 off x st' =>
      simp only [Option.some.injEq, Prod.mk.injEq] at h
      obtain ⟨rfl, rfl, rfl⟩ := h
      have ht : (pc : Int) + off = (t : Int) := by simpa [qp_opd] using ho
      intro ad H locs ls g1 g3 hP hD hS hl
      cases cc8 with
      | eq => exact lv_if_eq hx hb hd ht (fun q => kt q ad H locs ls g1 g3 hP hD hS hl) (fun q => kf q ad H locs ls g1 g3 hP hD hS hl)
      | ne => exact lv_if_ne hx hb hd ht (fun q => kt q ad H locs ls g1 g3 hP hD hS hl) (fun q => kf (fun n => n q) ad H locs ls g1 g3 hP hD hS hl)
      | lt => exact lv_if_lt hx hb hd ht (fun q => kt q ad H locs ls g1 g3 hP hD hS hl) (fun q => kf q ad H locs ls g1 g3 hP hD hS hl)
      | ge => exact lv_if_ge hx hb hd ht (fun q => kt q ad H locs ls g1 g3 hP hD hS hl) (fun q => kf q ad H locs ls g1 g3 hP hD hS hl)
      | gt => exact lv_if_gt hx hb hd ht (fun q => kt q ad H locs ls g1 g3 hP hD hS hl) (fun q => kf q ad H locs ls g1 g3 hP hD hS hl)
      | le => exact lv_if_le hx hb hd ht (fun q => kt q ad H locs ls g1 g3 hP hD hS hl) (fun q => kf q ad H locs ls g1 g3 hP hD hS hl)
    · next cc8 off y x st' =>
      simp only [Option.some.injEq, Prod.mk.injEq] at h
      obtain ⟨rfl, rfl, rfl⟩ := h
      have ht : (pc : Int) + off = (t : Int) := by simpa [qp_opd] using ho
      intro ad H locs ls g1 g3 hP hD hS hl
      cases cc8 with
      | eq => exact lv_icmp_eq hx hb hd ht (fun q => kt q ad H locs ls g1 g3 hP hD hS hl) (fun q => kf q ad H locs ls g1 g3 hP hD hS hl)
      | ne => exact lv_icmp_ne hx hb hd ht (fun q => kt q ad H locs ls g1 g3 hP hD hS hl) (fun q => kf (fun n => n q) ad H locs ls g1 g3 hP hD hS hl)
      | lt => exact lv_icmp_lt hx hb hd ht (fun q => kt q ad H locs ls g1 g3 hP hD hS hl) (fun q => kf q ad H locs ls g1 g3 hP hD hS hl)
      | ge => exact lv_icmp_ge hx hb hd ht (fun q => kt q ad H locs ls g1 g3 hP hD hS hl) (fun q => kf q ad H locs ls g1 g3 hP hD hS hl)
      | gt => exact lv_icmp_gt hx hb hd ht (fun q => kt q ad H locs ls g1 g3 hP hD hS hl) (fun q => kf q ad H locs ls g1 g3 hP hD hS hl)
      | le => exact lv_icmp_le hx hb hd ht (fun q => kt q ad H locs ls g1 g3 hP hD hS hl) (fun q => kf q ad H locs ls g1 g3 hP hD hS hl)
    · cases h
  · cases h
theorem qp_A_in {M : qp_M} {ad : Nat → Nat} {H : Heap} {locs : List Loc} (hA : ∀ q : Nat, s.heap.size ≤ q → A q) (hD : va_D A (qp_w G M ad)) (hS : va_S A s.heap H locs) : ∀ q, va_A (qp_w G M ad) H.size q → A q := by
  intro q h
  rcases h with ⟨k, e, h⟩ | h
  · exact hD.2 k (q, e) h
  · exact hA q (Nat.le_trans hS.1 h)
theorem qp_B_of (X : qp_X p s m args meth cd G o bs nL ini A (ad0 1000)) {M : qp_M} {ad : Nat → Nat} {H : Heap} {locs : List Loc} (g2 : ad 1000 = ad0 1000) (hP : va_P G.1 qp_cl (qp_w G M ad) H) (hD : va_D A (qp_w G M ad)) (hS : va_S A s.heap H locs) {U : State} (hU : U.heap = H) (hW : s.WarmedH U.vm) : qp_B G M ad H.size U := by
  obtain ⟨hx, hb, hml, hown, hts, hin, hK, hA, ⟨hZ, hT⟩, hN⟩ := X
  have hAi := qp_A_in (A := A) hA hD hS
  subst hU
  have hq : ∀ a : Nat, a < s.heap.size → ¬ A a → U.heap[a]? = s.heap[a]? := hS.2.1
  refine ⟨rfl, hP, va_K.moved hW.alike hK, hD.weaken (fun _ _ _ _ => trivial), ⟨?_, ?_⟩, qp_nest_warm hW hN⟩
  · rw [g2]; exact ((hZ.moved hW.alike).kept hq).narrow hAi
  · rw [g2]; exact ((hT.moved hW.alike).kept hq).narrow hAi
theorem qp_go (X : qp_X p s m args meth cd G o bs nL ini A (ad0 1000)) {pc mc ms : Nat} {L : List (Option Value)} {st rest : List Value} {M : qp_M} {Q : Option Value → qp_M → Prop}
    (hr : ∀ (ad : Nat → Nat) (H : Heap) (locs : List Loc) (ls : Array Slot), ad 1000 = ad0 1000 → va_P G.1 qp_cl (qp_w G M ad) H → va_D A (qp_w G M ad) → va_S A s.heap H locs → qp_Ls ls nL ad L → n0 ≤ M.2.2.2.2.1 ∧ q0 ≤ M.2.2.2.2.2 ∧ M.2.2.2.2.1 ≤ 900 →
      va_Run p l e R s m args below meth cd H locs (M.2.2.2.2.1 - n0) (M.2.2.2.2.2 - q0) mc ms (F0 m pc ls (st.map (qp_tr ad))) (rest.map (qp_tr ad)) (qp_Qf G M ad H.size mc ms Q) (va_A (qp_w G M ad) H.size))
    (hkn : mc = 0 ∨ qp_kl M.2.2.2.2.1 L rest = true)
    (k : ∀ (r : Option Value) (M' : qp_M), Q r M' → M'.2.2.2.2.1 = M.2.2.2.2.1 + mc → M'.2.2.2.2.2 = M.2.2.2.2.2 + ms → qp_V p l e R s m args below meth cd G nL A n0 q0 ad0 Z (pc + 3, L, r.toList ++ rest, M')) : qp_V p l e R s m args below meth cd G nL A n0 q0 ad0 Z (pc, L, st, M) := by
  have hA := X.2.2.2.2.2.2.2.1
  intro ad H locs ls g1 g3 hP hD hS hl
  dsimp only at g1 g3 hP hD hl ⊢
  have g2 : ad 1000 = ad0 1000 := g1 1000 (Or.inr (by omega))
  have hAi := qp_A_in (A := A) hA hD hS
  intro T hT X1
  obtain ⟨v, st₀, t, T', L', h0, X', hL, e1, e2, ⟨⟨r, M', ad', hQ, hoc, hag, ⟨hn, hq, h9⟩, hP', hD'⟩, hz, hk⟩, stp⟩ := hr ad H locs ls g2 hP hD hS hl g3 T hT X1
  rw [h0] at hz hk
  have hv : v = r.map (qp_tr ad') := by cases hoc; rfl
  subst hv
  have b2 : ad' 1000 = ad 1000 := hag 1000 (Or.inr (by omega))
  have kn : (∀ v, some v ∈ L → qp_tr ad' v = qp_tr ad v) ∧ rest.map (qp_tr ad') = rest.map (qp_tr ad) := by
    rcases hkn with rfl | hkn
    · have : ad' = ad := funext fun k => hag k (by omega)
      rw [this]
      exact ⟨fun _ _ => rfl, rfl⟩
    · obtain ⟨k1, k2⟩ := qp_and hkn
      exact ⟨fun v hv => qp_kn_tr (fun k hk => hag k (Or.inl hk)) b2 (List.all_eq_true.mp k1 _ hv), List.map_congr_left (fun v hv => qp_kn_tr (fun k hk => hag k (Or.inl hk)) b2 (List.all_eq_true.mp k2 _ hv))⟩
  have k0 := k r M' hQ hn hq ad' T'.heap (locs ++ L') ls (fun k' hk' => by
      have hk2 : k' < n0 ∨ M'.2.2.2.2.1 ≤ k' := hk'
      rw [hag k' (by omega)]
      exact g1 k' (by omega)) ⟨by show n0 ≤ M'.2.2.2.2.1; omega, by show q0 ≤ M'.2.2.2.2.2; omega, h9⟩ (by rw [e1]; exact hP') (hD'.weaken (fun k q _ h => hAi q.1 h))
    ⟨Nat.le_trans hS.1 (by rw [e1]; exact hz), fun q h1 h2 => by rw [e1, hk q (Nat.lt_of_lt_of_le h1 hS.1) (fun z => h2 (hAi q z))]; exact hS.2.1 q h1 h2, fun q hq => by
      rcases List.mem_append.mp hq with h | h
      · exact hS.2.2 q h
      · exact hAi _ (hL q h)⟩ (qp_Ls_kn hl kn.1)
  dsimp only at k0
  have e3 : (r.toList ++ rest).map (qp_tr ad') = (r.map (qp_tr ad')).toList ++ rest.map (qp_tr ad) := by
    rw [List.map_append, kn.2]
    cases r <;> rfl
  rw [e3] at k0
  have k1 : W p l e R s m args below meth cd T'.heap (locs ++ L') (M.2.2.2.2.1 - n0 + mc) (M.2.2.2.2.2 - q0 + ms) Z (F0 m (pc + 3) ls ((r.map (qp_tr ad')).toList ++ rest.map (qp_tr ad))) := W.cs (by omega) (by omega) k0
  obtain ⟨t2, a1, b1⟩ := k1 T' rfl X'
  exact ⟨t2, stp t2 a1, b1⟩
/-- what a call needs of the room -/
def qp_rm (R : Room) (d mc ms n0 q0 : Nat) (M : qp_M) : Prop := d + 1 ≤ R.frames ∧ 64 * (d + 1) ≤ R.locals ∧ M.2.2.2.2.1 - n0 + mc ≤ R.cells ∧ M.2.2.2.2.2 - q0 + ms ≤ R.slots
theorem qp_callS_W (X : qp_X p s m args meth cd G o bs nL ini A (ad0 1000)) {K : List (List (Nat × Instr × Int32 × Nat))} (hK : qp_ok o bs K) {pc d mi mc ms ix t : Nat} {v : Int32} {L : List (Option Value)} {st rest av : List Value} {M : qp_M} {Q : Option Value → qp_M → Prop}
    (hf : qp_ft8 K pc = some (.invokestatic ix, v, t)) (hmi : t = 10 * mi + 1) (hlt : mi < 238) (hsta : qp_sta mi = true) (hM : qp_Met l G d mi av M mc ms Q) (hna : qp_na mi = av.length) (hst : st = av.reverse ++ rest) (hcat : Nat.ble (qp_cat rest) 8 = true) (hR : qp_rm R d mc ms n0 q0 M) (hkn : mc = 0 ∨ qp_kl M.2.2.2.2.1 L rest = true)
    (k : ∀ (r : Option Value) (M' : qp_M), Q r M' → M'.2.2.2.2.1 = M.2.2.2.2.1 + mc → M'.2.2.2.2.2 = M.2.2.2.2.2 + ms → qp_V p l e R s m args below meth cd G nL A n0 q0 ad0 Z (pc + 3, L, r.toList ++ rest, M')) : qp_V p l e R s m args below meth cd G nL A n0 q0 ad0 Z (pc, L, st, M) := by
  refine qp_go X (fun ad H locs ls g2 hP hD hS hl g3 => ?_) hkn k
  obtain ⟨hx, hb, hml, hown, hts, hin, hKk, hA, hZT, hN⟩ := id X
  obtain ⟨hd, ho⟩ := hK _ _ hf
  have hlk : qp_lk (qp_iR o) ix = some t := by simpa [qp_opd] using ho
  subst hmi
  have e1 : (10 * mi + 1) / 10 = mi := by omega
  have e2 : (10 * mi + 1) % 10 = 1 := by omega
  have hw := qp_mV hlk (by unfold qp_nst; dsimp only; rw [e2]; rfl)
  have hw' : Cond.methodLink (qp_R o) ix (qp_y mi) ∈ qp_tb := by
    have : qp_wiw o (ix, 10 * mi + 1) = Cond.methodLink (qp_R o) ix (qp_y mi) := by unfold qp_wiw; dsimp only; rw [e2, e1]; rfl
    rw [← this]; exact hw
  obtain ⟨y1, y2, y3, y4, y5, y6, y7⟩ := qp_mY hlt
  have hs := qp_mS hlt
  rw [hsta] at hs
  have hin2 : Cond.initialized (qp_y mi).cls ∈ qp_tb := by rw [y1]; exact qp_mZ y2
  have hgood : GoodIn qp_tb (va_wsS (qp_R o) ix (qp_y mi) (qp_cw mi :: qp_tb)) := qp_goodIn (fun w hw9 => by
    unfold va_wsS at hw9
    simp only [List.mem_append, List.mem_cons, List.not_mem_nil, or_false] at hw9
    rcases hw9 with (rfl | rfl | rfl) | (rfl | h)
    · exact hw'
    · exact hs
    · exact hin2
    · exact qp_mW hlt
    · exact h)
  subst hst
  exact va_runS (nL := nL) (own := qp_R o) (As := av.map (qp_tr ad)) (rest := rest.map (qp_tr ad)) (index := ix) (y := qp_y mi) (bytes := qp_b mi) (maxL := qp_mL mi) (ret := qp_rt mi) (n := qp_na mi) (H := H) (locs := locs) (cells := M.2.2.2.2.1 - n0) (slots := M.2.2.2.2.2 - q0) (g := F0 m pc ls ((av.reverse ++ rest).map (qp_tr ad))) ⟨hx, hb, hml, hown, hts⟩ (hM g3.2.2 ad H.size) (va_cwS (qp_na mi) hts hgood rfl rfl rfl ⟨y4.1, y4.2, y5⟩ ⟨hR.1, by have h9 := hR.2.1; show 8 + (qp_mL mi + 11) + 64 * d ≤ _; omega⟩) ⟨qp_B_blind, fun U hU hW => ⟨rfl, qp_B_of X g2 hP hD hS hU hW⟩⟩ rfl (by rw [List.length_map, hna]) hl.1 (by show (av.reverse ++ rest).map (qp_tr ad) = _; rw [List.map_append, List.map_reverse]) (by
      show 2 * 0 + ((rest.map (qp_tr ad)).map (fun v => v.category)).sum ≤ 8
      rw [qp_cat_tr]
      have := Nat.le_of_ble_eq_true hcat
      omega) hd ⟨hR.2.2.1, hR.2.2.2⟩
theorem qp_callV_W (X : qp_X p s m args meth cd G o bs nL ini A (ad0 1000)) {K : List (List (Nat × Instr × Int32 × Nat))} (hK : qp_ok o bs K) {pc d mi mc ms ix t b : Nat} {v : Int32} {L : List (Option Value)} {st rest av : List Value} {M : qp_M} {Q : Option Value → qp_M → Prop}
    (hf : qp_ft8 K pc = some (.invokevirtual ix, v, t)) (hmi : t = 10 * mi ∨ t = 10 * mi + 3) (hlt : mi < 238) (hsta : qp_sta mi = false ∧ qp_ini mi = false) (hM : qp_Met l G d mi (.ref b :: av) M mc ms Q) (hna : qp_na mi = av.length) (hst : st = av.reverse ++ .ref b :: rest) (hb8 : (Nat.blt b M.2.2.2.2.1 && Nat.beq (M.2.2.2.1 b).1 (qp_o mi)) = true) (ho11 : qp_o mi < 11) (hcat : Nat.ble (qp_cat rest) 8 = true) (hR : qp_rm R d mc ms n0 q0 M) (hkn : mc = 0 ∨ qp_kl M.2.2.2.2.1 L rest = true)
    (k : ∀ (r : Option Value) (M' : qp_M), Q r M' → M'.2.2.2.2.1 = M.2.2.2.2.1 + mc → M'.2.2.2.2.2 = M.2.2.2.2.2 + ms → qp_V p l e R s m args below meth cd G nL A n0 q0 ad0 Z (pc + 3, L, r.toList ++ rest, M')) : qp_V p l e R s m args below meth cd G nL A n0 q0 ad0 Z (pc, L, st, M) := by
  refine qp_go X (fun ad H locs ls g2 hP hD hS hl g3 => ?_) hkn k
  obtain ⟨hx, hb, hml, hown, hts, hin, hKk, hA, hZT, hN⟩ := id X
  obtain ⟨hd, ho⟩ := hK _ _ hf
  have hlk : qp_lk (qp_iR o) ix = some t := by simpa [qp_opd] using ho
  obtain ⟨y1, y2, y3, y4, y5, y6, y7⟩ := qp_mY hlt
  have hs := qp_mS hlt
  rw [hsta.1] at hs
  have hse := qp_mX hlt hsta.1 hsta.2
  have hin2 : Cond.initialized (qp_y mi).cls ∈ qp_tb := by rw [y1]; exact qp_mZ y2
  subst hst
  obtain ⟨b1, b2⟩ := qp_and hb8
  have b3 := Nat.eq_of_beq_eq_true b2
  have ha := qp_w_at (G := G) (M := M) (ad := ad) (qp_blt b1)
  rw [qp_e_obj b3 (by omega)] at ha
  have hrecv := va_recv hKk hP (ci := qp_o mi) (q0 := b) (qp_cl_at ho11) ha
  have hrecv2 : ∃ cellB : Cell, H[ad b]? = some cellB ∧ cellB.vm.isStatics = false ∧ s.vm.findClass (qp_y mi).cls = some cellB.cls := by rw [y1]; exact hrecv
  have hroom : d + 1 ≤ R.frames ∧ 8 + (qp_mL mi + 11) + 64 * d ≤ R.locals := ⟨hR.1, by have h9 := hR.2.1; omega⟩
  have hW8 : 2 * (F0 m pc ls ((av.reverse ++ Value.ref b :: rest).map (qp_tr ad))).monitorRoom + ((rest.map (qp_tr ad)).map (fun v => v.category)).sum ≤ 8 := by
    show 2 * 0 + ((rest.map (qp_tr ad)).map (fun v => v.category)).sum ≤ 8
    rw [qp_cat_tr]
    have := Nat.le_of_ble_eq_true hcat
    omega
  have hstk : (av.reverse ++ Value.ref b :: rest).map (qp_tr ad) = (av.map (qp_tr ad)).reverse ++ Value.ref (ad b) :: rest.map (qp_tr ad) := by rw [List.map_append, List.map_reverse]; rfl
  rcases hmi with hmi | hmi
  · subst hmi
    have e1 : (10 * mi) / 10 = mi := by omega
    have e2 : (10 * mi) % 10 = 0 := by omega
    have hw := qp_mV hlk (by unfold qp_nst; dsimp only; rw [e2]; rfl)
    have hw' : Cond.methodLink (qp_R o) ix (qp_y mi) ∈ qp_tb := by
      have : qp_wiw o (ix, 10 * mi) = Cond.methodLink (qp_R o) ix (qp_y mi) := by unfold qp_wiw; dsimp only; rw [e2, e1]; rfl
      rw [← this]; exact hw
    have hgood : GoodIn qp_tb (wsV (qp_R o) ix (qp_y mi).cls (qp_y mi) (qp_cw mi :: qp_tb)) := qp_goodIn (fun w hw9 => by
      unfold wsV at hw9
      simp only [List.mem_append, List.mem_cons, List.not_mem_nil, or_false] at hw9
      rcases hw9 with (rfl | rfl | rfl | rfl) | (rfl | h)
      · exact hw'
      · exact hs
      · exact hse
      · exact hin2
      · exact qp_mW hlt
      · exact h)
    exact va_runV (nL := nL) (own := qp_R o) (C := (qp_y mi).cls) (b := ad b) (As := av.map (qp_tr ad)) (rest := rest.map (qp_tr ad)) (index := ix) (y := qp_y mi) (bytes := qp_b mi) (maxL := qp_mL mi) (ret := qp_rt mi) (n := qp_na mi) (H := H) (locs := locs) (cells := M.2.2.2.2.1 - n0) (slots := M.2.2.2.2.2 - q0) (g := F0 m pc ls ((av.reverse ++ Value.ref b :: rest).map (qp_tr ad))) ⟨hx, hb, hml, hown, hts⟩ (hM g3.2.2 ad H.size) (cwV (qp_na mi) hts hgood rfl rfl rfl ⟨rfl, y4.1, y4.2, y5⟩ hroom) ⟨qp_B_blind, hrecv2, fun U hU hW => ⟨rfl, qp_B_of X g2 hP hD hS hU hW⟩⟩ rfl (by rw [List.length_map, hna]) hl.1 hstk hW8 hd ⟨hR.2.2.1, hR.2.2.2⟩
  · subst hmi
    have e1 : (10 * mi + 3) / 10 = mi := by omega
    have e2 : (10 * mi + 3) % 10 = 3 := by omega
    have hlk2 := qp_lk_mem hlk
    have ho15 : o < 15 := by
      rcases Nat.lt_or_ge o 15 with q | q
      · exact q
      · rw [qp_iR_0 o q] at hlk2; cases hlk2
    have hnw : va_Nw (.methodLinkNest (qp_R o) ix (qp_y mi) "QueuePlaces") s := by
      refine hN _ (List.mem_append_left _ (List.mem_flatMap.mpr ⟨o, List.mem_range.mpr ho15, List.mem_map.mpr ⟨(ix, 10 * mi + 3), List.mem_filter.mpr ⟨hlk2, by unfold qp_nst; dsimp only; rw [e2]; rfl⟩, ?_⟩⟩))
      dsimp only
      rw [e1]
    have hgood : GoodIn qp_tb (qp_cw mi :: qp_tb) := qp_goodIn (fun w hw9 => by
      rcases List.mem_cons.mp hw9 with rfl | h
      · exact qp_mW hlt
      · exact h)
    exact va_runVN (nL := nL) (own := qp_R o) (host := "QueuePlaces") (C := (qp_y mi).cls) (b := ad b) (As := av.map (qp_tr ad)) (rest := rest.map (qp_tr ad)) (index := ix) (y := qp_y mi) (bytes := qp_b mi) (maxL := qp_mL mi) (ret := qp_rt mi) (n := qp_na mi) (H := H) (locs := locs) (cells := M.2.2.2.2.1 - n0) (slots := M.2.2.2.2.2 - q0) (g := F0 m pc ls ((av.reverse ++ Value.ref b :: rest).map (qp_tr ad))) ⟨hx, hb, hml, hown, hts⟩ (hM g3.2.2 ad H.size) ⟨va_cnB (qp_na mi) hts hgood rfl rfl rfl hnw (hts _ hin2) ⟨y4.1, y4.2, y5⟩ hroom, hts _ hs, hts _ hse⟩ ⟨qp_B_blind, hrecv2, fun U hU hW => ⟨rfl, qp_B_of X g2 hP hD hS hU hW⟩⟩ rfl (by rw [List.length_map, hna]) hl.1 hstk hW8 hd ⟨hR.2.2.1, hR.2.2.2⟩
theorem qp_callI_W (X : qp_X p s m args meth cd G o bs nL ini A (ad0 1000)) {K : List (List (Nat × Instr × Int32 × Nat))} (hK : qp_ok o bs K) {pc d mi mc ms ix t b : Nat} {v : Int32} {L : List (Option Value)} {st rest av : List Value} {M : qp_M} {Q : Option Value → qp_M → Prop}
    (hf : qp_ft8 K pc = some (.invokespecial ix, v, t)) (hmi : t = 10 * mi + 2 ∨ t = 10 * mi + 4) (hlt : mi < 238) (hsta : qp_sta mi = false ∧ qp_ini mi = true) (hret : qp_rt mi = none) (hM : qp_Met l G d mi (.ref b :: av) M mc ms Q) (hna : qp_na mi = av.length) (hst : st = av.reverse ++ .ref b :: rest) (hcat : Nat.ble (qp_cat rest) 8 = true) (hR : qp_rm R d mc ms n0 q0 M) (hkn : mc = 0 ∨ qp_kl M.2.2.2.2.1 L rest = true)
    (k : ∀ (r : Option Value) (M' : qp_M), Q r M' → M'.2.2.2.2.1 = M.2.2.2.2.1 + mc → M'.2.2.2.2.2 = M.2.2.2.2.2 + ms → qp_V p l e R s m args below meth cd G nL A n0 q0 ad0 Z (pc + 3, L, r.toList ++ rest, M')) : qp_V p l e R s m args below meth cd G nL A n0 q0 ad0 Z (pc, L, st, M) := by
  refine qp_go X (fun ad H locs ls g2 hP hD hS hl g3 => ?_) hkn k
  obtain ⟨hx, hb, hml, hown, hts, hin, hKk, hA, hZT, hN⟩ := id X
  obtain ⟨hd, ho⟩ := hK _ _ hf
  have hlk : qp_lk (qp_iR o) ix = some t := by simpa [qp_opd] using ho
  obtain ⟨y1, y2, y3, y4, y5, y6, y7⟩ := qp_mY hlt
  have hs := qp_mS hlt
  rw [hsta.1] at hs
  have hin2 : Cond.initialized (qp_y mi).cls ∈ qp_tb := by rw [y1]; exact qp_mZ y2
  subst hst
  have hroom : d + 1 ≤ R.frames ∧ 8 + (qp_mL mi + 11) + 64 * d ≤ R.locals := ⟨hR.1, by have h9 := hR.2.1; omega⟩
  have hW8 : 2 * (F0 m pc ls ((av.reverse ++ Value.ref b :: rest).map (qp_tr ad))).monitorRoom + ((rest.map (qp_tr ad)).map (fun v => v.category)).sum ≤ 8 := by
    show 2 * 0 + ((rest.map (qp_tr ad)).map (fun v => v.category)).sum ≤ 8
    rw [qp_cat_tr]
    have := Nat.le_of_ble_eq_true hcat
    omega
  have hstk : (av.reverse ++ Value.ref b :: rest).map (qp_tr ad) = (av.map (qp_tr ad)).reverse ++ Value.ref (ad b) :: rest.map (qp_tr ad) := by rw [List.map_append, List.map_reverse]; rfl
  have hcw : qp_cw mi = Cond.code (qp_y mi) (qp_b mi) (qp_mL mi) none := by unfold qp_cw; rw [hret]
  have hgood : GoodIn qp_tb (qp_cw mi :: qp_tb) := qp_goodIn (fun w hw9 => by
      rcases List.mem_cons.mp hw9 with rfl | h
      · exact qp_mW hlt
      · exact h)
  have hM1 := hM g3.2.2 ad H.size
  rw [hcw] at hgood hM1
  rcases hmi with hmi | hmi
  · subst hmi
    have e1 : (10 * mi + 2) / 10 = mi := by omega
    have e2 : (10 * mi + 2) % 10 = 2 := by omega
    have hw := qp_mV hlk (by unfold qp_nst; dsimp only; rw [e2]; rfl)
    have hw' : Cond.methodLink (qp_R o) ix (qp_y mi) ∈ qp_tb := by
      have : qp_wiw o (ix, 10 * mi + 2) = Cond.methodLink (qp_R o) ix (qp_y mi) := by unfold qp_wiw; dsimp only; rw [e2, e1]; rfl
      rw [← this]; exact hw
    exact va_runI (nL := nL) (own := qp_R o) (b := ad b) (As := av.map (qp_tr ad)) (rest := rest.map (qp_tr ad)) (index := ix) (y := qp_y mi) (bytes := qp_b mi) (maxL := qp_mL mi) (n := qp_na mi) (H := H) (locs := locs) (cells := M.2.2.2.2.1 - n0) (slots := M.2.2.2.2.2 - q0) (g := F0 m pc ls ((av.reverse ++ Value.ref b :: rest).map (qp_tr ad))) ⟨hx, hb, hml, hown, hts⟩ hM1 ⟨callB_of (qp_na mi) hts hgood rfl rfl rfl (hts _ hin2) (hts _ hw') ⟨y4.1, y4.2, y5⟩ hroom, y7 hsta.2, hts _ hs⟩ ⟨qp_B_blind, fun U hU hW => ⟨rfl, qp_B_of X g2 hP hD hS hU hW⟩⟩ rfl (by rw [List.length_map, hna]) hl.1 hstk hW8 hd ⟨hR.2.2.1, hR.2.2.2⟩
  · subst hmi
    have e1 : (10 * mi + 4) / 10 = mi := by omega
    have e2 : (10 * mi + 4) % 10 = 4 := by omega
    have hlk2 := qp_lk_mem hlk
    have ho15 : o < 15 := by
      rcases Nat.lt_or_ge o 15 with q | q
      · exact q
      · rw [qp_iR_0 o q] at hlk2; cases hlk2
    have hnw : va_Nw (.methodLinkNest (qp_R o) ix (qp_y mi) "QueuePlaces") s := by
      refine hN _ (List.mem_append_left _ (List.mem_flatMap.mpr ⟨o, List.mem_range.mpr ho15, List.mem_map.mpr ⟨(ix, 10 * mi + 4), List.mem_filter.mpr ⟨hlk2, by unfold qp_nst; dsimp only; rw [e2]; rfl⟩, ?_⟩⟩))
      dsimp only
      rw [e1]
    exact va_runIN (nL := nL) (own := qp_R o) (host := "QueuePlaces") (b := ad b) (As := av.map (qp_tr ad)) (rest := rest.map (qp_tr ad)) (index := ix) (y := qp_y mi) (bytes := qp_b mi) (maxL := qp_mL mi) (n := qp_na mi) (H := H) (locs := locs) (cells := M.2.2.2.2.1 - n0) (slots := M.2.2.2.2.2 - q0) (g := F0 m pc ls ((av.reverse ++ Value.ref b :: rest).map (qp_tr ad))) ⟨hx, hb, hml, hown, hts⟩ hM1 ⟨va_cnB (qp_na mi) hts hgood rfl rfl rfl hnw (hts _ hin2) ⟨y4.1, y4.2, y5⟩ hroom, y7 hsta.2, hts _ hs⟩ ⟨qp_B_blind, fun U hU hW => ⟨rfl, qp_B_of X g2 hP hD hS hU hW⟩⟩ rfl (by rw [List.length_map, hna]) hl.1 hstk hW8 hd ⟨hR.2.2.1, hR.2.2.2⟩
end QPC
end
section
/-! THE JUDGEMENT THAT METHODS ARE PROVED IN: from frame c on, method mi (called over M0) comes to its end with Q -/
def qp_E (l : Launch) (G : qp_G) (d mi : Nat) (M0 : qp_M) (mc ms : Nat) (Q : Option Value → qp_M → Prop) (c : qp_C) : Prop :=
  ∀ (p : Program) (e : Env) (s : State) (m : MethodId) (args : Array Value) (below : List Frame) (meth : Method) (cd : Code) (ad0 : Nat → Nat),
    qp_X p s m args meth cd G (qp_o mi) (qp_b mi) (qp_mL mi) (qp_ini mi) (va_A (qp_w G M0 ad0) s.heap.size) (ad0 1000) → meth.sig.returnType = qp_rt mi → meth.locks = false →
    qp_V p l e ({ frames := d, cells := mc, slots := ms, locals := 64 * d } : Room) s m args below meth cd G (qp_mL mi) (va_A (qp_w G M0 ad0) s.heap.size) M0.2.2.2.2.1 M0.2.2.2.2.2 ad0
      (MQ below (fun _ st o t => qp_Qf G M0 ad0 s.heap.size mc ms Q st o t) args s mc ms (va_A (qp_w G M0 ad0) s.heap.size)) c
section QPE
variable {l : Launch} {G : qp_G} {d mi : Nat} {M0 : qp_M} {mc ms : Nat} {Q : Option Value → qp_M → Prop} {K : List (List (Nat × Instr × Int32 × Nat))}
theorem qp_run_E (hK : qp_ok (qp_o mi) (qp_b mi) K) (n : Nat) {c c' : qp_C} {f : Prop} (h : qp_run (M0.2.2.2.2.1 + mc, M0.2.2.2.2.2 + ms) (qp_o mi) (qp_ini mi) K n c = some (f, c')) (hd : Nat.ble 1 d = true) (hf : f) (k : qp_E l G d mi M0 mc ms Q c') : qp_E l G d mi M0 mc ms Q c := by
  intro p e s m args below meth cd ad0 X hr hl
  have hd1 := Nat.le_of_ble_eq_true hd
  exact qp_run_W X hK ⟨Nat.le_refl _, Nat.le_refl _⟩ ⟨hd1, by show 40 ≤ 64 * d; omega⟩ n h hf (k p e s m args below meth cd ad0 X hr hl)
theorem qp_br_E (hK : qp_ok (qp_o mi) (qp_b mi) K) {c ct cf : qp_C} {f : Prop} (h : qp_br K c = some (f, ct, cf)) (kt : f → qp_E l G d mi M0 mc ms Q ct) (kf : ¬ f → qp_E l G d mi M0 mc ms Q cf) : qp_E l G d mi M0 mc ms Q c := by
  intro p e s m args below meth cd ad0 X hr hl
  exact qp_br_W X hK h (fun q => kt q p e s m args below meth cd ad0 X hr hl) (fun q => kf q p e s m args below meth cd ad0 X hr hl)
/-- the room of a call by a method of d frames -/
def qp_rmE (d d' mc ms mc' ms' : Nat) (M0 M : qp_M) : Prop := d' + 1 ≤ d ∧ M.2.2.2.2.1 - M0.2.2.2.2.1 + mc' ≤ mc ∧ M.2.2.2.2.2 - M0.2.2.2.2.2 + ms' ≤ ms
theorem qp_callS_E (hK : qp_ok (qp_o mi) (qp_b mi) K) {pc d' mj mc' ms' ix t : Nat} {v : Int32} {L : List (Option Value)} {st rest av : List Value} {M : qp_M} {Q' : Option Value → qp_M → Prop}
    (hf : qp_ft8 K pc = some (.invokestatic ix, v, t)) (hmi : t = 10 * mj + 1) (hlt : mj < 238) (hsta : qp_sta mj = true) (hna : qp_na mj = av.length) (hM : qp_Met l G d' mj av M mc' ms' Q') (hst : st = av.reverse ++ rest) (hcat : Nat.ble (qp_cat rest) 8 = true) (hR : qp_rmE d d' mc ms mc' ms' M0 M) (hkn : mc' = 0 ∨ qp_kl M.2.2.2.2.1 L rest = true)
    (k : ∀ (r : Option Value) (M' : qp_M), Q' r M' → M'.2.2.2.2.1 = M.2.2.2.2.1 + mc' → M'.2.2.2.2.2 = M.2.2.2.2.2 + ms' → qp_E l G d mi M0 mc ms Q (pc + 3, L, r.toList ++ rest, M')) : qp_E l G d mi M0 mc ms Q (pc, L, st, M) := by
  intro p e s m args below meth cd ad0 X hr hl
  exact qp_callS_W X hK hf hmi hlt hsta hM hna hst hcat ⟨hR.1, by show 64 * (d' + 1) ≤ 64 * d; have := hR.1; omega, hR.2.1, hR.2.2⟩ hkn (fun r M' h1 h2 h3 => k r M' h1 h2 h3 p e s m args below meth cd ad0 X hr hl)
theorem qp_callV_E (hK : qp_ok (qp_o mi) (qp_b mi) K) {pc d' mj mc' ms' ix t b : Nat} {v : Int32} {L : List (Option Value)} {st rest av : List Value} {M : qp_M} {Q' : Option Value → qp_M → Prop}
    (hf : qp_ft8 K pc = some (.invokevirtual ix, v, t)) (hmi : t = 10 * mj ∨ t = 10 * mj + 3) (hlt : mj < 238) (hsta : qp_sta mj = false ∧ qp_ini mj = false) (hna : qp_na mj = av.length) (ho11 : qp_o mj < 11) (hM : qp_Met l G d' mj (.ref b :: av) M mc' ms' Q') (hst : st = av.reverse ++ .ref b :: rest) (hb8 : (Nat.blt b M.2.2.2.2.1 && Nat.beq (M.2.2.2.1 b).1 (qp_o mj)) = true) (hcat : Nat.ble (qp_cat rest) 8 = true) (hR : qp_rmE d d' mc ms mc' ms' M0 M) (hkn : mc' = 0 ∨ qp_kl M.2.2.2.2.1 L rest = true)
    (k : ∀ (r : Option Value) (M' : qp_M), Q' r M' → M'.2.2.2.2.1 = M.2.2.2.2.1 + mc' → M'.2.2.2.2.2 = M.2.2.2.2.2 + ms' → qp_E l G d mi M0 mc ms Q (pc + 3, L, r.toList ++ rest, M')) : qp_E l G d mi M0 mc ms Q (pc, L, st, M) := by
  intro p e s m args below meth cd ad0 X hr hl
  exact qp_callV_W X hK hf hmi hlt hsta hM hna hst hb8 ho11 hcat ⟨hR.1, by show 64 * (d' + 1) ≤ 64 * d; have := hR.1; omega, hR.2.1, hR.2.2⟩ hkn (fun r M' h1 h2 h3 => k r M' h1 h2 h3 p e s m args below meth cd ad0 X hr hl)
theorem qp_callI_E (hK : qp_ok (qp_o mi) (qp_b mi) K) {pc d' mj mc' ms' ix t b : Nat} {v : Int32} {L : List (Option Value)} {st rest av : List Value} {M : qp_M} {Q' : Option Value → qp_M → Prop}
    (hf : qp_ft8 K pc = some (.invokespecial ix, v, t)) (hmi : t = 10 * mj + 2 ∨ t = 10 * mj + 4) (hlt : mj < 238) (hsta : qp_sta mj = false ∧ qp_ini mj = true) (hret : qp_rt mj = none) (hna : qp_na mj = av.length) (hM : qp_Met l G d' mj (.ref b :: av) M mc' ms' Q') (hst : st = av.reverse ++ .ref b :: rest) (hcat : Nat.ble (qp_cat rest) 8 = true) (hR : qp_rmE d d' mc ms mc' ms' M0 M) (hkn : mc' = 0 ∨ qp_kl M.2.2.2.2.1 L rest = true)
    (k : ∀ (r : Option Value) (M' : qp_M), Q' r M' → M'.2.2.2.2.1 = M.2.2.2.2.1 + mc' → M'.2.2.2.2.2 = M.2.2.2.2.2 + ms' → qp_E l G d mi M0 mc ms Q (pc + 3, L, r.toList ++ rest, M')) : qp_E l G d mi M0 mc ms Q (pc, L, st, M) := by
  intro p e s m args below meth cd ad0 X hr hl
  exact qp_callI_W X hK hf hmi hlt hsta hret hM hna hst hcat ⟨hR.1, by show 64 * (d' + 1) ≤ 64 * d; have := hR.1; omega, hR.2.1, hR.2.2⟩ hkn (fun r M' h1 h2 h3 => k r M' h1 h2 h3 p e s m args below meth cd ad0 X hr hl)
/-- what an end has to show of the room -/
def qp_fin8 (M0 M : qp_M) (mc ms : Nat) : Prop := M.2.2.2.2.1 = M0.2.2.2.2.1 + mc ∧ M.2.2.2.2.2 = M0.2.2.2.2.2 + ms
theorem qp_end {p : Program} {s : State} {m : MethodId} {args : Array Value} {meth : Method} {cd : Code} {ad0 ad : Nat → Nat} {o nL : Nat} {bs : ByteArray} {ini : Bool} {M : qp_M} {H : Heap} {locs : List Loc} (X : qp_X p s m args meth cd G o bs nL ini (va_A (qp_w G M0 ad0) s.heap.size) (ad0 1000)) (g1 : ∀ k, (k < M0.2.2.2.2.1 ∨ M.2.2.2.2.1 ≤ k) → ad k = ad0 k) (h9 : M.2.2.2.2.1 ≤ 900) (hP : va_P G.1 qp_cl (qp_w G M ad) H) (hD : va_D (va_A (qp_w G M0 ad0) s.heap.size) (qp_w G M ad)) (hS : va_S (va_A (qp_w G M0 ad0) s.heap.size) s.heap H locs) (hfin : qp_fin8 M0 M mc ms) {r : Option Value} {r' : Option Value} (hr : r' = r.map (qp_tr ad)) (hQ : Q r M) {t : State} (ht : t.heap = H) : qp_Qf G M0 ad0 s.heap.size mc ms Q s (.returned r') t := by
  subst hr
  exact ⟨⟨r, M, ad, hQ, rfl, g1, ⟨hfin.1, hfin.2, h9⟩, by rw [ht]; exact hP, hD⟩, hS.F ht⟩
theorem qp_retI_E (hK : qp_ok (qp_o mi) (qp_b mi) K) {pc : Nat} {v0 : Int32} {t : Nat} (hf : qp_ft8 K pc = some (.ireturn, v0, t)) (hrt : qp_rt mi = some .int) {L : List (Option Value)} {v : Int32} {M : qp_M} (hfin : qp_fin8 M0 M mc ms) (hQ : Q (some (.int v)) M) : qp_E l G d mi M0 mc ms Q (pc, L, [.int v], M) := by
  intro p e s m args below meth cd ad0 X hr hlk ad H locs ls g1 g3 hP hD hS hl
  obtain ⟨hd, -⟩ := hK _ _ hf
  dsimp only at g1 g3 hP hD hl ⊢
  rw [show M.2.2.2.2.1 - M0.2.2.2.2.1 = mc by have := hfin.1; omega, show M.2.2.2.2.2 - M0.2.2.2.2.2 = ms by have := hfin.2; omega]
  exact W.iret (v := v) X.1 X.2.1 (hr.trans hrt) (fun t ht hW => qp_end X g1 g3.2.2 hP hD hS hfin (r := some (.int v)) rfl hQ ht) hS.2.2 hd hlk
theorem qp_retZ_E (hK : qp_ok (qp_o mi) (qp_b mi) K) {pc : Nat} {v0 : Int32} {t : Nat} (hf : qp_ft8 K pc = some (.ireturn, v0, t)) (hrt : qp_rt mi = some .boolean) {L : List (Option Value)} {v : Int32} {M : qp_M} (hv : narrow .boolean (.int v) = .int v) (hfin : qp_fin8 M0 M mc ms) (hQ : Q (some (.int v)) M) : qp_E l G d mi M0 mc ms Q (pc, L, [.int v], M) := by
  intro p e s m args below meth cd ad0 X hr hlk ad H locs ls g1 g3 hP hD hS hl
  obtain ⟨hd, -⟩ := hK _ _ hf
  dsimp only at g1 g3 hP hD hl ⊢
  rw [show M.2.2.2.2.1 - M0.2.2.2.2.1 = mc by have := hfin.1; omega, show M.2.2.2.2.2 - M0.2.2.2.2.2 = ms by have := hfin.2; omega]
  exact W.zret (v := v) (ty := .boolean) X.1 X.2.1 (hr.trans hrt) hv (fun t ht hW => qp_end X g1 g3.2.2 hP hD hS hfin (r := some (.int v)) rfl hQ ht) hS.2.2 hd hlk
theorem qp_retL_E (hK : qp_ok (qp_o mi) (qp_b mi) K) {pc : Nat} {v0 : Int32} {t : Nat} (hf : qp_ft8 K pc = some (.lreturn, v0, t)) (hrt : qp_rt mi = some .long) {L : List (Option Value)} {v : Int64} {M : qp_M} (hfin : qp_fin8 M0 M mc ms) (hQ : Q (some (.long v)) M) : qp_E l G d mi M0 mc ms Q (pc, L, [.long v], M) := by
  intro p e s m args below meth cd ad0 X hr hlk ad H locs ls g1 g3 hP hD hS hl
  obtain ⟨hd, -⟩ := hK _ _ hf
  dsimp only at g1 g3 hP hD hl ⊢
  rw [show M.2.2.2.2.1 - M0.2.2.2.2.1 = mc by have := hfin.1; omega, show M.2.2.2.2.2 - M0.2.2.2.2.2 = ms by have := hfin.2; omega]
  exact W.lret (v := v) X.1 X.2.1 (hr.trans hrt) (fun t ht hW => qp_end X g1 g3.2.2 hP hD hS hfin (r := some (.long v)) rfl hQ ht) hS.2.2 hd hlk
theorem qp_retV_E (hK : qp_ok (qp_o mi) (qp_b mi) K) {pc : Nat} {v0 : Int32} {t : Nat} (hf : qp_ft8 K pc = some (.return_, v0, t)) (hrt : qp_rt mi = none) {L : List (Option Value)} {M : qp_M} (hfin : qp_fin8 M0 M mc ms) (hQ : Q none M) : qp_E l G d mi M0 mc ms Q (pc, L, [], M) := by
  intro p e s m args below meth cd ad0 X hr hlk ad H locs ls g1 g3 hP hD hS hl
  obtain ⟨hd, -⟩ := hK _ _ hf
  dsimp only at g1 g3 hP hD hl ⊢
  rw [show M.2.2.2.2.1 - M0.2.2.2.2.1 = mc by have := hfin.1; omega, show M.2.2.2.2.2 - M0.2.2.2.2.2 = ms by have := hfin.2; omega]
  exact W.vret X.1 X.2.1 (hr.trans hrt) (fun t ht hW => qp_end X g1 g3.2.2 hP hD hS hfin (r := none) rfl hQ ht) hS.2.2 hd hlk
end QPE
/-- the locals at a method's entry -/
def qp_ent8 : List Value → List (Option Value)
  | [] => []
  | .long x :: t => some (.long x) :: none :: qp_ent8 t
  | .double x :: t => some (.double x) :: none :: qp_ent8 t
  | v :: t => some v :: qp_ent8 t
def qp_loc (av : List Value) (n : Nat) : List (Option Value) := qp_ent8 av ++ List.replicate (n - qp_len (qp_ent8 av)) none
theorem qp_ent8_len (ad : Nat → Nat) (av : List Value) : (lg_sl (av.map (qp_tr ad))).length = (qp_ent8 av).length := by
  induction av with
  | nil => rfl
  | cons v t ih =>
    have e : lg_sl ((v :: t).map (qp_tr ad)) = lg_sl [qp_tr ad v] ++ lg_sl (t.map (qp_tr ad)) := by simp [lg_sl]
    rw [e, List.length_append, ih]
    cases v <;> simp [qp_ent8, lg_sl, qp_tr, Value.category] <;> omega
theorem qp_ent8_mem (ad : Nat → Nat) : ∀ (av : List Value) (k i : Nat) (v : Value), (qp_ent8 av)[i]? = some (some v) → (k + i, qp_tr ad v) ∈ lv_args k (av.map (qp_tr ad))
  | [], k, i, v, h => by simp [qp_ent8] at h
  | w :: t, k, i, v, h => by
    have two : ∀ (w' : Value), qp_ent8 (w :: t) = some w :: none :: qp_ent8 t → w.category = 2 → (k + i, qp_tr ad v) ∈ lv_args k ((w :: t).map (qp_tr ad)) := by
      intro w' he hc
      rw [he] at h
      match i, h with
      | 0, h =>
        simp only [List.getElem?_cons_zero, Option.some.injEq] at h
        subst h
        simp [lv_args]
      | 1, h => simp at h
      | j + 2, h =>
        have h' : (qp_ent8 t)[j]? = some (some v) := by simpa using h
        have := qp_ent8_mem ad t (k + 2) j v h'
        simp only [List.map_cons, lv_args, qp_tr_cat, hc, if_true]
        rw [show k + (j + 2) = k + 2 + j by omega]
        exact List.mem_cons_of_mem _ this
    have one : qp_ent8 (w :: t) = some w :: qp_ent8 t → ¬ w.category = 2 → (k + i, qp_tr ad v) ∈ lv_args k ((w :: t).map (qp_tr ad)) := by
      intro he hc
      rw [he] at h
      match i, h with
      | 0, h =>
        simp only [List.getElem?_cons_zero, Option.some.injEq] at h
        subst h
        simp [lv_args]
      | j + 1, h =>
        have h' : (qp_ent8 t)[j]? = some (some v) := by simpa using h
        have := qp_ent8_mem ad t (k + 1) j v h'
        simp only [List.map_cons, lv_args, qp_tr_cat, hc, if_false]
        rw [show k + (j + 1) = k + 1 + j by omega]
        exact List.mem_cons_of_mem _ this
    cases w with
    | long x => exact two (.long x) rfl rfl
    | double x => exact two (.double x) rfl rfl
    | int x => exact one rfl (by simp [Value.category])
    | float x => exact one rfl (by simp [Value.category])
    | ref x => exact one rfl (by simp [Value.category])
    | null => exact one rfl (by simp [Value.category])
    | retAddr x => exact one rfl (by simp [Value.category])
theorem qp_ofW {l : Launch} {y : MethodName} {ws ws' : List Cond} {rm : Room} {Pc : Array Value → State → Prop} {Qc : Array Value → State → Outcome → State → Prop} {mc ms : Nat} {free : Addr → Prop} {cc : ByteArray} {maxL : Nat} {ret : Option FieldType}
    (hy : plainFor y = true) (hw : ws = Cond.code y cc maxL ret :: ws')
    (body : ∀ p e s m args below meth c s₁, BodyLoose p l y (headSpec ws rm) cc maxL ret e s m args below meth c s₁ → c.maxLocals = maxL → Pc args s →
      W p l e (headSpec ws rm).room s m args below meth c s.heap [] 0 0 (MQ below Qc args s mc ms free) (entryFrame m args maxL)) : Met l y ws rm Pc Qc mc ms free := by
  refine MetFree.of_bodySF (code := cc) (maxLocals := maxL) (ret := ret) hy ?_ ?_
  · intro args s m h hn
    obtain ⟨meth, c, h1, h2, h3, h4, h5, h6, -, -⟩ := Cond.code_spec hn (atoms_spec (ws := ws) h _ (by rw [hw]; exact List.mem_cons_self))
    exact ⟨meth, c, h1, h2, h3, h4, h5, h6⟩
  · intro p e s m args below meth c s₁ B hml hP _
    have hh0 : s₁.heap = s.heap := by rw [B.state]; rfl
    obtain ⟨t, a1, o, b1, b2, b3⟩ := body p e s m args below meth c s₁ B hml hP s₁ hh0 (Stand.of_body B)
    exact ⟨t, o, a1, b1, b2, ⟨b3.1, b3.2⟩⟩
theorem qp_Met_of {l : Launch} {G : qp_G} {d mi : Nat} {av : List Value} {M : qp_M} {mc ms : Nat} {Q : Option Value → qp_M → Prop} (hlt : mi < 238) (hlen : Nat.ble (qp_len (qp_ent8 av)) (qp_mL mi) = true) (L : List (Option Value)) (hL : qp_loc av (qp_mL mi) = L)
    (h : qp_E l G d mi M mc ms Q (0, L, [], M)) : qp_Met l G d mi av M mc ms Q := by
  intro h9 ad sz
  obtain ⟨y1, y2, y3, y4, y5, y6, y7⟩ := qp_mY hlt
  refine qp_ofW (cc := qp_b mi) (maxL := qp_mL mi) (ret := qp_rt mi) y3 rfl ?_
  intro p e s m args below meth c s₁ B hml hv
  obtain ⟨rfl, hsz, hP, hK, hD0, ⟨hZ, hT⟩, hN⟩ := hv
  have hts := atoms_spec (ws := qp_cw mi :: qp_tb) B.pre
  have hown : s.vm.findClass (qp_y mi).cls = some m.cls := findClass_of_methodNamed B.named
  rw [y1] at hown
  subst hsz
  have hlL := Nat.le_of_ble_eq_true hlen
  rw [qp_len_eq] at hlL
  have hlL2 : (lg_sl (av.map (qp_tr ad))).length ≤ qp_mL mi := by rw [qp_ent8_len]; exact hlL
  rw [lg_entry_eq]
  have hl := lv_entry (av.map (qp_tr ad)) (n := qp_mL mi) hlL2
  have hLs : qp_Ls ((lg_sl (av.map (qp_tr ad)) ++ List.replicate (qp_mL mi - (lg_sl (av.map (qp_tr ad))).length) Slot.unset).toArray) (qp_mL mi) ad L := by
    refine ⟨hl.1, hl.2.1, ?_, fun i v hi => ?_⟩
    · rw [← hL]
      unfold qp_loc
      rw [qp_len_eq, List.length_append, List.length_replicate]
      omega
    · rw [← hL] at hi
      unfold qp_loc at hi
      by_cases hi2 : i < (qp_ent8 av).length
      · rw [List.getElem?_append_left hi2] at hi
        have := qp_ent8_mem ad av 0 i v hi
        rw [Nat.zero_add] at this
        exact hl.2.2 _ this
      · rw [List.getElem?_append_right (by omega)] at hi
        have := List.eq_of_mem_replicate (List.mem_of_getElem? hi)
        cases this
  have hX : qp_X p s m ((av.map (qp_tr ad)).toArray) meth c G (qp_o mi) (qp_b mi) (qp_mL mi) (qp_ini mi) (va_A (qp_w G M ad) s.heap.size) (ad 1000) :=
    ⟨B.exec, B.bytes, hml, hown, fun w hw => hts w (List.mem_cons_of_mem _ hw), fun q => (name_of_methodNamed B.named B.method).1.trans (y7 q), hK, fun q hq => Or.inr hq, ⟨hZ, hT⟩, hN⟩
  have k0 := h p e s m _ below meth c ad hX B.returns B.notSynchronized ad s.heap [] _ (fun _ _ => rfl) ⟨Nat.le_refl _, Nat.le_refl _, h9⟩ hP (hD0.self) va_S.rf hLs
  dsimp only at k0
  rw [Nat.sub_self, Nat.sub_self] at k0
  exact k0
end
section
/-! THE MEMORY BEHIND THE TWO CONSTRUCTORS: its cells and references stay; ints (I) and longs (J) change -/
def qp_P0L : List (List (Option Nat)) := [
  [some 1, some 4, some 7, some 10, some 14, some 25, some 29, some 33, some 34, some 35, none, none, none, none],
  [none, some 2, some 3],
  [],
  [],
  [none, some 5, some 6],
  [],
  [],
  [none, some 8, some 9],
  [],
  [],
  [some 11, some 4, none, none],
  [none, none, some 12, some 13],
  [],
  [],
  [some 15, some 18, none, none, none, none, some 23, some 24],
  [none, none, some 16, some 17],
  [],
  [],
  [none, none, some 15, none, none, none, some 19, some 20, some 21, some 22],
  [],
  [],
  [],
  [],
  [],
  [],
  [some 14, some 26, some 27, some 28, none, none],
  [],
  [],
  [],
  [none, some 14, some 30, some 31, some 32],
  [],
  [],
  [],
  [some 14, none, none],
  [some 14, none],
  [],
  [some 37, some 38, some 39, some 40, some 41, some 42, some 43, some 44, none, none, none, none, some 45, some 46, none, some 47, some 48, some 49, some 50, some 51, none, some 52, some 53, some 54, some 55, some 56, some 57],
  [],
  [],
  [],
  [],
  [],
  [],
  [],
  [],
  [],
  [],
  [],
  [],
  [],
  [],
  [],
  [],
  [],
  [],
  [],
  [],
  []]
def qp_P0 (k j : Nat) : Option Nat := match qp_nth qp_P0L k with
  | some l => (match qp_nth l j with | some x => x | none => none)
  | none => none
def qp_S0L : List (Nat × Nat) := [(0, 14), (1, 3), (50, 6), (50, 240), (1, 3), (50, 4), (50, 240), (1, 3), (50, 3), (50, 120), (2, 4), (3, 4), (50, 6), (50, 6), (4, 8), (3, 4), (50, 6), (50, 6), (5, 10), (50, 6), (50, 6), (50, 6), (50, 6), (50, 12), (50, 40), (6, 6), (50, 720), (50, 720), (51, 720), (7, 5), (50, 6), (50, 6), (50, 24), (8, 3), (9, 2), (50, 6), (10, 27), (50, 75), (50, 225), (51, 3), (50, 240), (50, 6), (50, 240), (50, 4), (50, 6), (50, 40), (50, 75), (50, 75), (50, 6), (50, 6), (50, 6), (50, 6), (50, 3), (50, 6), (50, 24), (50, 4), (50, 4), (50, 6)]
def qp_S0 (k : Nat) : Nat × Nat := match qp_nth qp_S0L k with
  | some x => x
  | none => (0, 0)
abbrev qp_mk (I : Nat → Nat → Int32) (J : Nat → Nat → Int64) : qp_M := (I, J, qp_P0, qp_S0, 58, 4071)
/-- a method's number of arguments, its class, how it is called -/
def qp_fv (mj na oj k : Nat) : Prop := mj < 238 ∧ qp_na mj = na ∧ qp_o mj = oj ∧ qp_stL8.getD mj 0 = k
theorem qp_f0 : qp_fv 0 0 0 2 := by unfold qp_fv; decide +kernel
theorem qp_ok0 : qp_ok (qp_o 0) (qp_b 0) qp_k0 := qp_ok_of qp_h0
theorem qp_r0 : qp_rt 0 = none ∧ qp_mL 0 = 1 := by decide +kernel
theorem qp_f1 : qp_fv 1 2 1 2 := by unfold qp_fv; decide +kernel
theorem qp_ok1 : qp_ok (qp_o 1) (qp_b 1) qp_k1 := qp_ok_of qp_h1
theorem qp_r1 : qp_rt 1 = none ∧ qp_mL 1 = 4 := by decide +kernel
theorem qp_f2 : qp_fv 2 2 13 1 := by unfold qp_fv; decide +kernel
theorem qp_ok2 : qp_ok (qp_o 2) (qp_b 2) qp_k2 := qp_ok_of qp_h2
theorem qp_r2 : qp_rt 2 = some .int ∧ qp_mL 2 = 2 := by decide +kernel
theorem qp_f3 : qp_fv 3 1 2 2 := by unfold qp_fv; decide +kernel
theorem qp_ok3 : qp_ok (qp_o 3) (qp_b 3) qp_k3 := qp_ok_of qp_h3
theorem qp_r3 : qp_rt 3 = none ∧ qp_mL 3 = 2 := by decide +kernel
theorem qp_f4 : qp_fv 4 0 3 2 := by unfold qp_fv; decide +kernel
theorem qp_ok4 : qp_ok (qp_o 4) (qp_b 4) qp_k4 := qp_ok_of qp_h4
theorem qp_r4 : qp_rt 4 = none ∧ qp_mL 4 = 1 := by decide +kernel
theorem qp_f5 : qp_fv 5 0 4 2 := by unfold qp_fv; decide +kernel
theorem qp_ok5 : qp_ok (qp_o 5) (qp_b 5) qp_k5 := qp_ok_of qp_h5
theorem qp_r5 : qp_rt 5 = none ∧ qp_mL 5 = 1 := by decide +kernel
theorem qp_f6 : qp_fv 6 1 5 2 := by unfold qp_fv; decide +kernel
theorem qp_ok6 : qp_ok (qp_o 6) (qp_b 6) qp_k6 := qp_ok_of qp_h6
theorem qp_r6 : qp_rt 6 = none ∧ qp_mL 6 = 2 := by decide +kernel
theorem qp_f7 : qp_fv 7 1 6 2 := by unfold qp_fv; decide +kernel
theorem qp_ok7 : qp_ok (qp_o 7) (qp_b 7) qp_k7 := qp_ok_of qp_h7
theorem qp_r7 : qp_rt 7 = none ∧ qp_mL 7 = 2 := by decide +kernel
theorem qp_f8 : qp_fv 8 1 7 2 := by unfold qp_fv; decide +kernel
theorem qp_ok8 : qp_ok (qp_o 8) (qp_b 8) qp_k8 := qp_ok_of qp_h8
theorem qp_r8 : qp_rt 8 = none ∧ qp_mL 8 = 2 := by decide +kernel
theorem qp_f9 : qp_fv 9 1 8 2 := by unfold qp_fv; decide +kernel
theorem qp_ok9 : qp_ok (qp_o 9) (qp_b 9) qp_k9 := qp_ok_of qp_h9
theorem qp_r9 : qp_rt 9 = none ∧ qp_mL 9 = 2 := by decide +kernel
theorem qp_f10 : qp_fv 10 1 9 2 := by unfold qp_fv; decide +kernel
theorem qp_ok10 : qp_ok (qp_o 10) (qp_b 10) qp_k10 := qp_ok_of qp_h10
theorem qp_r10 : qp_rt 10 = none ∧ qp_mL 10 = 2 := by decide +kernel
theorem qp_f11 : qp_fv 11 2 0 0 := by unfold qp_fv; decide +kernel
theorem qp_ok11 : qp_ok (qp_o 11) (qp_b 11) qp_k11 := qp_ok_of qp_h11
theorem qp_r11 : qp_rt 11 = some .int ∧ qp_mL 11 = 3 := by decide +kernel
theorem qp_f12 : qp_fv 12 4 0 0 := by unfold qp_fv; decide +kernel
theorem qp_ok12 : qp_ok (qp_o 12) (qp_b 12) qp_k12 := qp_ok_of qp_h12
theorem qp_r12 : qp_rt 12 = some .int ∧ qp_mL 12 = 5 := by decide +kernel
theorem qp_f13 : qp_fv 13 1 1 0 := by unfold qp_fv; decide +kernel
theorem qp_ok13 : qp_ok (qp_o 13) (qp_b 13) qp_k13 := qp_ok_of qp_h13
theorem qp_r13 : qp_rt 13 = some .boolean ∧ qp_mL 13 = 2 := by decide +kernel
theorem qp_f14 : qp_fv 14 1 0 0 := by unfold qp_fv; decide +kernel
theorem qp_ok14 : qp_ok (qp_o 14) (qp_b 14) qp_k14 := qp_ok_of qp_h14
theorem qp_r14 : qp_rt 14 = some .int ∧ qp_mL 14 = 2 := by decide +kernel
theorem qp_f15 : qp_fv 15 3 1 0 := by unfold qp_fv; decide +kernel
theorem qp_ok15 : qp_ok (qp_o 15) (qp_b 15) qp_k15 := qp_ok_of qp_h15
theorem qp_r15 : qp_rt 15 = none ∧ qp_mL 15 = 5 := by decide +kernel
theorem qp_f16 : qp_fv 16 3 0 0 := by unfold qp_fv; decide +kernel
theorem qp_ok16 : qp_ok (qp_o 16) (qp_b 16) qp_k16 := qp_ok_of qp_h16
theorem qp_r16 : qp_rt 16 = some .int ∧ qp_mL 16 = 6 := by decide +kernel
theorem qp_f17 : qp_fv 17 3 0 0 := by unfold qp_fv; decide +kernel
theorem qp_ok17 : qp_ok (qp_o 17) (qp_b 17) qp_k17 := qp_ok_of qp_h17
theorem qp_r17 : qp_rt 17 = some .int ∧ qp_mL 17 = 5 := by decide +kernel
theorem qp_f18 : qp_fv 18 2 0 0 := by unfold qp_fv; decide +kernel
theorem qp_ok18 : qp_ok (qp_o 18) (qp_b 18) qp_k18 := qp_ok_of qp_h18
theorem qp_r18 : qp_rt 18 = some .int ∧ qp_mL 18 = 3 := by decide +kernel
theorem qp_f19 : qp_fv 19 1 1 0 := by unfold qp_fv; decide +kernel
theorem qp_ok19 : qp_ok (qp_o 19) (qp_b 19) qp_k19 := qp_ok_of qp_h19
theorem qp_r19 : qp_rt 19 = some .boolean ∧ qp_mL 19 = 2 := by decide +kernel
theorem qp_f20 : qp_fv 20 1 1 0 := by unfold qp_fv; decide +kernel
theorem qp_ok20 : qp_ok (qp_o 20) (qp_b 20) qp_k20 := qp_ok_of qp_h20
theorem qp_r20 : qp_rt 20 = some .int ∧ qp_mL 20 = 2 := by decide +kernel
theorem qp_f21 : qp_fv 21 2 1 0 := by unfold qp_fv; decide +kernel
theorem qp_ok21 : qp_ok (qp_o 21) (qp_b 21) qp_k21 := qp_ok_of qp_h21
theorem qp_r21 : qp_rt 21 = some .boolean ∧ qp_mL 21 = 3 := by decide +kernel
theorem qp_f22 : qp_fv 22 2 1 0 := by unfold qp_fv; decide +kernel
theorem qp_ok22 : qp_ok (qp_o 22) (qp_b 22) qp_k22 := qp_ok_of qp_h22
theorem qp_r22 : qp_rt 22 = some .int ∧ qp_mL 22 = 3 := by decide +kernel
theorem qp_f23 : qp_fv 23 3 1 0 := by unfold qp_fv; decide +kernel
theorem qp_ok23 : qp_ok (qp_o 23) (qp_b 23) qp_k23 := qp_ok_of qp_h23
theorem qp_r23 : qp_rt 23 = none ∧ qp_mL 23 = 4 := by decide +kernel
theorem qp_f24 : qp_fv 24 1 0 0 := by unfold qp_fv; decide +kernel
theorem qp_ok24 : qp_ok (qp_o 24) (qp_b 24) qp_k24 := qp_ok_of qp_h24
theorem qp_r24 : qp_rt 24 = some .int ∧ qp_mL 24 = 2 := by decide +kernel
theorem qp_f25 : qp_fv 25 2 0 0 := by unfold qp_fv; decide +kernel
theorem qp_ok25 : qp_ok (qp_o 25) (qp_b 25) qp_k25 := qp_ok_of qp_h25
theorem qp_r25 : qp_rt 25 = some .int ∧ qp_mL 25 = 4 := by decide +kernel
theorem qp_f26 : qp_fv 26 1 0 0 := by unfold qp_fv; decide +kernel
theorem qp_ok26 : qp_ok (qp_o 26) (qp_b 26) qp_k26 := qp_ok_of qp_h26
theorem qp_r26 : qp_rt 26 = some .int ∧ qp_mL 26 = 3 := by decide +kernel
theorem qp_f27 : qp_fv 27 1 1 0 := by unfold qp_fv; decide +kernel
theorem qp_ok27 : qp_ok (qp_o 27) (qp_b 27) qp_k27 := qp_ok_of qp_h27
theorem qp_r27 : qp_rt 27 = none ∧ qp_mL 27 = 2 := by decide +kernel
theorem qp_f28 : qp_fv 28 5 0 0 := by unfold qp_fv; decide +kernel
theorem qp_ok28 : qp_ok (qp_o 28) (qp_b 28) qp_k28 := qp_ok_of qp_h28
theorem qp_r28 : qp_rt 28 = some .int ∧ qp_mL 28 = 6 := by decide +kernel
theorem qp_f29 : qp_fv 29 3 1 0 := by unfold qp_fv; decide +kernel
theorem qp_ok29 : qp_ok (qp_o 29) (qp_b 29) qp_k29 := qp_ok_of qp_h29
theorem qp_r29 : qp_rt 29 = some .boolean ∧ qp_mL 29 = 4 := by decide +kernel
theorem qp_f30 : qp_fv 30 5 1 0 := by unfold qp_fv; decide +kernel
theorem qp_ok30 : qp_ok (qp_o 30) (qp_b 30) qp_k30 := qp_ok_of qp_h30
theorem qp_r30 : qp_rt 30 = none ∧ qp_mL 30 = 6 := by decide +kernel
theorem qp_f31 : qp_fv 31 1 0 0 := by unfold qp_fv; decide +kernel
theorem qp_ok31 : qp_ok (qp_o 31) (qp_b 31) qp_k31 := qp_ok_of qp_h31
theorem qp_r31 : qp_rt 31 = some .int ∧ qp_mL 31 = 4 := by decide +kernel
theorem qp_f32 : qp_fv 32 1 1 0 := by unfold qp_fv; decide +kernel
theorem qp_ok32 : qp_ok (qp_o 32) (qp_b 32) qp_k32 := qp_ok_of qp_h32
theorem qp_r32 : qp_rt 32 = some .long ∧ qp_mL 32 = 5 := by decide +kernel
theorem qp_f33 : qp_fv 33 2 0 0 := by unfold qp_fv; decide +kernel
theorem qp_ok33 : qp_ok (qp_o 33) (qp_b 33) qp_k33 := qp_ok_of qp_h33
theorem qp_r33 : qp_rt 33 = some .int ∧ qp_mL 33 = 3 := by decide +kernel
theorem qp_f34 : qp_fv 34 3 0 0 := by unfold qp_fv; decide +kernel
theorem qp_ok34 : qp_ok (qp_o 34) (qp_b 34) qp_k34 := qp_ok_of qp_h34
theorem qp_r34 : qp_rt 34 = some .int ∧ qp_mL 34 = 6 := by decide +kernel
theorem qp_f35 : qp_fv 35 1 0 0 := by unfold qp_fv; decide +kernel
theorem qp_ok35 : qp_ok (qp_o 35) (qp_b 35) qp_k35 := qp_ok_of qp_h35
theorem qp_r35 : qp_rt 35 = some .int ∧ qp_mL 35 = 3 := by decide +kernel
theorem qp_f36 : qp_fv 36 1 2 0 := by unfold qp_fv; decide +kernel
theorem qp_ok36 : qp_ok (qp_o 36) (qp_b 36) qp_k36 := qp_ok_of qp_h36
theorem qp_r36 : qp_rt 36 = some .int ∧ qp_mL 36 = 2 := by decide +kernel
theorem qp_f37 : qp_fv 37 0 3 0 := by unfold qp_fv; decide +kernel
theorem qp_ok37 : qp_ok (qp_o 37) (qp_b 37) qp_k37 := qp_ok_of qp_h37
theorem qp_r37 : qp_rt 37 = none ∧ qp_mL 37 = 1 := by decide +kernel
theorem qp_f38 : qp_fv 38 0 2 0 := by unfold qp_fv; decide +kernel
theorem qp_ok38 : qp_ok (qp_o 38) (qp_b 38) qp_k38 := qp_ok_of qp_h38
theorem qp_r38 : qp_rt 38 = none ∧ qp_mL 38 = 1 := by decide +kernel
theorem qp_f39 : qp_fv 39 0 2 0 := by unfold qp_fv; decide +kernel
theorem qp_ok39 : qp_ok (qp_o 39) (qp_b 39) qp_k39 := qp_ok_of qp_h39
theorem qp_r39 : qp_rt 39 = some .boolean ∧ qp_mL 39 = 3 := by decide +kernel
theorem qp_f40 : qp_fv 40 1 2 0 := by unfold qp_fv; decide +kernel
theorem qp_ok40 : qp_ok (qp_o 40) (qp_b 40) qp_k40 := qp_ok_of qp_h40
theorem qp_r40 : qp_rt 40 = some .int ∧ qp_mL 40 = 4 := by decide +kernel
theorem qp_f41 : qp_fv 41 0 2 0 := by unfold qp_fv; decide +kernel
theorem qp_ok41 : qp_ok (qp_o 41) (qp_b 41) qp_k41 := qp_ok_of qp_h41
theorem qp_r41 : qp_rt 41 = some .int ∧ qp_mL 41 = 4 := by decide +kernel
theorem qp_f42 : qp_fv 42 1 2 0 := by unfold qp_fv; decide +kernel
theorem qp_ok42 : qp_ok (qp_o 42) (qp_b 42) qp_k42 := qp_ok_of qp_h42
theorem qp_r42 : qp_rt 42 = some .int ∧ qp_mL 42 = 3 := by decide +kernel
theorem qp_f43 : qp_fv 43 2 3 0 := by unfold qp_fv; decide +kernel
theorem qp_ok43 : qp_ok (qp_o 43) (qp_b 43) qp_k43 := qp_ok_of qp_h43
theorem qp_r43 : qp_rt 43 = none ∧ qp_mL 43 = 3 := by decide +kernel
theorem qp_f44 : qp_fv 44 1 0 0 := by unfold qp_fv; decide +kernel
theorem qp_ok44 : qp_ok (qp_o 44) (qp_b 44) qp_k44 := qp_ok_of qp_h44
theorem qp_r44 : qp_rt 44 = some .int ∧ qp_mL 44 = 4 := by decide +kernel
theorem qp_f45 : qp_fv 45 1 3 0 := by unfold qp_fv; decide +kernel
theorem qp_ok45 : qp_ok (qp_o 45) (qp_b 45) qp_k45 := qp_ok_of qp_h45
theorem qp_r45 : qp_rt 45 = none ∧ qp_mL 45 = 3 := by decide +kernel
theorem qp_f46 : qp_fv 46 1 3 0 := by unfold qp_fv; decide +kernel
theorem qp_ok46 : qp_ok (qp_o 46) (qp_b 46) qp_k46 := qp_ok_of qp_h46
theorem qp_r46 : qp_rt 46 = some .int ∧ qp_mL 46 = 2 := by decide +kernel
theorem qp_f47 : qp_fv 47 1 3 0 := by unfold qp_fv; decide +kernel
theorem qp_ok47 : qp_ok (qp_o 47) (qp_b 47) qp_k47 := qp_ok_of qp_h47
theorem qp_r47 : qp_rt 47 = some .int ∧ qp_mL 47 = 2 := by decide +kernel
theorem qp_f48 : qp_fv 48 0 4 0 := by unfold qp_fv; decide +kernel
theorem qp_ok48 : qp_ok (qp_o 48) (qp_b 48) qp_k48 := qp_ok_of qp_h48
theorem qp_r48 : qp_rt 48 = none ∧ qp_mL 48 = 1 := by decide +kernel
theorem qp_f49 : qp_fv 49 1 11 1 := by unfold qp_fv; decide +kernel
theorem qp_ok49 : qp_ok (qp_o 49) (qp_b 49) qp_k49 := qp_ok_of qp_h49
theorem qp_r49 : qp_rt 49 = some .int ∧ qp_mL 49 = 3 := by decide +kernel
theorem qp_f50 : qp_fv 50 3 11 1 := by unfold qp_fv; decide +kernel
theorem qp_ok50 : qp_ok (qp_o 50) (qp_b 50) qp_k50 := qp_ok_of qp_h50
theorem qp_r50 : qp_rt 50 = some .int ∧ qp_mL 50 = 3 := by decide +kernel
theorem qp_f51 : qp_fv 51 2 0 0 := by unfold qp_fv; decide +kernel
theorem qp_ok51 : qp_ok (qp_o 51) (qp_b 51) qp_k51 := qp_ok_of qp_h51
theorem qp_r51 : qp_rt 51 = some .int ∧ qp_mL 51 = 3 := by decide +kernel
theorem qp_f52 : qp_fv 52 1 3 0 := by unfold qp_fv; decide +kernel
theorem qp_ok52 : qp_ok (qp_o 52) (qp_b 52) qp_k52 := qp_ok_of qp_h52
theorem qp_r52 : qp_rt 52 = some .boolean ∧ qp_mL 52 = 2 := by decide +kernel
theorem qp_f53 : qp_fv 53 1 4 0 := by unfold qp_fv; decide +kernel
theorem qp_ok53 : qp_ok (qp_o 53) (qp_b 53) qp_k53 := qp_ok_of qp_h53
theorem qp_r53 : qp_rt 53 = none ∧ qp_mL 53 = 2 := by decide +kernel
theorem qp_f54 : qp_fv 54 3 5 0 := by unfold qp_fv; decide +kernel
theorem qp_ok54 : qp_ok (qp_o 54) (qp_b 54) qp_k54 := qp_ok_of qp_h54
theorem qp_r54 : qp_rt 54 = none ∧ qp_mL 54 = 8 := by decide +kernel
theorem qp_f55 : qp_fv 55 2 11 1 := by unfold qp_fv; decide +kernel
theorem qp_ok55 : qp_ok (qp_o 55) (qp_b 55) qp_k55 := qp_ok_of qp_h55
theorem qp_r55 : qp_rt 55 = some .int ∧ qp_mL 55 = 2 := by decide +kernel
theorem qp_f56 : qp_fv 56 2 3 1 := by unfold qp_fv; decide +kernel
theorem qp_ok56 : qp_ok (qp_o 56) (qp_b 56) qp_k56 := qp_ok_of qp_h56
theorem qp_r56 : qp_rt 56 = some .boolean ∧ qp_mL 56 = 2 := by decide +kernel
theorem qp_f57 : qp_fv 57 2 3 1 := by unfold qp_fv; decide +kernel
theorem qp_ok57 : qp_ok (qp_o 57) (qp_b 57) qp_k57 := qp_ok_of qp_h57
theorem qp_r57 : qp_rt 57 = some .int ∧ qp_mL 57 = 2 := by decide +kernel
theorem qp_f58 : qp_fv 58 2 5 0 := by unfold qp_fv; decide +kernel
theorem qp_ok58 : qp_ok (qp_o 58) (qp_b 58) qp_k58 := qp_ok_of qp_h58
theorem qp_r58 : qp_rt 58 = none ∧ qp_mL 58 = 5 := by decide +kernel
theorem qp_f59 : qp_fv 59 2 13 1 := by unfold qp_fv; decide +kernel
theorem qp_ok59 : qp_ok (qp_o 59) (qp_b 59) qp_k59 := qp_ok_of qp_h59
theorem qp_r59 : qp_rt 59 = some .int ∧ qp_mL 59 = 2 := by decide +kernel
theorem qp_f60 : qp_fv 60 2 0 0 := by unfold qp_fv; decide +kernel
theorem qp_ok60 : qp_ok (qp_o 60) (qp_b 60) qp_k60 := qp_ok_of qp_h60
theorem qp_r60 : qp_rt 60 = some .int ∧ qp_mL 60 = 3 := by decide +kernel
theorem qp_f61 : qp_fv 61 1 4 0 := by unfold qp_fv; decide +kernel
theorem qp_ok61 : qp_ok (qp_o 61) (qp_b 61) qp_k61 := qp_ok_of qp_h61
theorem qp_r61 : qp_rt 61 = some .int ∧ qp_mL 61 = 2 := by decide +kernel
theorem qp_f62 : qp_fv 62 3 11 1 := by unfold qp_fv; decide +kernel
theorem qp_ok62 : qp_ok (qp_o 62) (qp_b 62) qp_k62 := qp_ok_of qp_h62
theorem qp_r62 : qp_rt 62 = some .int ∧ qp_mL 62 = 4 := by decide +kernel
theorem qp_f63 : qp_fv 63 1 5 0 := by unfold qp_fv; decide +kernel
theorem qp_ok63 : qp_ok (qp_o 63) (qp_b 63) qp_k63 := qp_ok_of qp_h63
theorem qp_r63 : qp_rt 63 = some .int ∧ qp_mL 63 = 2 := by decide +kernel
theorem qp_f64 : qp_fv 64 1 5 0 := by unfold qp_fv; decide +kernel
theorem qp_ok64 : qp_ok (qp_o 64) (qp_b 64) qp_k64 := qp_ok_of qp_h64
theorem qp_r64 : qp_rt 64 = some .int ∧ qp_mL 64 = 2 := by decide +kernel
theorem qp_f65 : qp_fv 65 1 5 0 := by unfold qp_fv; decide +kernel
theorem qp_ok65 : qp_ok (qp_o 65) (qp_b 65) qp_k65 := qp_ok_of qp_h65
theorem qp_r65 : qp_rt 65 = some .int ∧ qp_mL 65 = 2 := by decide +kernel
theorem qp_f66 : qp_fv 66 1 4 0 := by unfold qp_fv; decide +kernel
theorem qp_ok66 : qp_ok (qp_o 66) (qp_b 66) qp_k66 := qp_ok_of qp_h66
theorem qp_r66 : qp_rt 66 = some .int ∧ qp_mL 66 = 4 := by decide +kernel
theorem qp_f67 : qp_fv 67 4 11 1 := by unfold qp_fv; decide +kernel
theorem qp_ok67 : qp_ok (qp_o 67) (qp_b 67) qp_k67 := qp_ok_of qp_h67
theorem qp_r67 : qp_rt 67 = some .boolean ∧ qp_mL 67 = 4 := by decide +kernel
theorem qp_f68 : qp_fv 68 1 13 1 := by unfold qp_fv; decide +kernel
theorem qp_ok68 : qp_ok (qp_o 68) (qp_b 68) qp_k68 := qp_ok_of qp_h68
theorem qp_r68 : qp_rt 68 = some .int ∧ qp_mL 68 = 1 := by decide +kernel
theorem qp_f69 : qp_fv 69 2 0 0 := by unfold qp_fv; decide +kernel
theorem qp_ok69 : qp_ok (qp_o 69) (qp_b 69) qp_k69 := qp_ok_of qp_h69
theorem qp_r69 : qp_rt 69 = some .int ∧ qp_mL 69 = 3 := by decide +kernel
theorem qp_f70 : qp_fv 70 1 4 0 := by unfold qp_fv; decide +kernel
theorem qp_ok70 : qp_ok (qp_o 70) (qp_b 70) qp_k70 := qp_ok_of qp_h70
theorem qp_r70 : qp_rt 70 = some .int ∧ qp_mL 70 = 4 := by decide +kernel
theorem qp_f71 : qp_fv 71 1 5 0 := by unfold qp_fv; decide +kernel
theorem qp_ok71 : qp_ok (qp_o 71) (qp_b 71) qp_k71 := qp_ok_of qp_h71
theorem qp_r71 : qp_rt 71 = some .int ∧ qp_mL 71 = 2 := by decide +kernel
theorem qp_f72 : qp_fv 72 2 0 0 := by unfold qp_fv; decide +kernel
theorem qp_ok72 : qp_ok (qp_o 72) (qp_b 72) qp_k72 := qp_ok_of qp_h72
theorem qp_r72 : qp_rt 72 = some .int ∧ qp_mL 72 = 4 := by decide +kernel
theorem qp_f73 : qp_fv 73 1 4 0 := by unfold qp_fv; decide +kernel
theorem qp_ok73 : qp_ok (qp_o 73) (qp_b 73) qp_k73 := qp_ok_of qp_h73
theorem qp_r73 : qp_rt 73 = some .boolean ∧ qp_mL 73 = 2 := by decide +kernel
theorem qp_f74 : qp_fv 74 2 4 0 := by unfold qp_fv; decide +kernel
theorem qp_ok74 : qp_ok (qp_o 74) (qp_b 74) qp_k74 := qp_ok_of qp_h74
theorem qp_r74 : qp_rt 74 = none ∧ qp_mL 74 = 3 := by decide +kernel
theorem qp_f75 : qp_fv 75 1 4 0 := by unfold qp_fv; decide +kernel
theorem qp_ok75 : qp_ok (qp_o 75) (qp_b 75) qp_k75 := qp_ok_of qp_h75
theorem qp_r75 : qp_rt 75 = none ∧ qp_mL 75 = 2 := by decide +kernel
theorem qp_f76 : qp_fv 76 3 11 1 := by unfold qp_fv; decide +kernel
theorem qp_ok76 : qp_ok (qp_o 76) (qp_b 76) qp_k76 := qp_ok_of qp_h76
theorem qp_r76 : qp_rt 76 = some .int ∧ qp_mL 76 = 7 := by decide +kernel
theorem qp_f77 : qp_fv 77 2 11 1 := by unfold qp_fv; decide +kernel
theorem qp_ok77 : qp_ok (qp_o 77) (qp_b 77) qp_k77 := qp_ok_of qp_h77
theorem qp_r77 : qp_rt 77 = some .int ∧ qp_mL 77 = 2 := by decide +kernel
theorem qp_f78 : qp_fv 78 2 11 1 := by unfold qp_fv; decide +kernel
theorem qp_ok78 : qp_ok (qp_o 78) (qp_b 78) qp_k78 := qp_ok_of qp_h78
theorem qp_r78 : qp_rt 78 = some .int ∧ qp_mL 78 = 2 := by decide +kernel
theorem qp_f79 : qp_fv 79 2 4 0 := by unfold qp_fv; decide +kernel
theorem qp_ok79 : qp_ok (qp_o 79) (qp_b 79) qp_k79 := qp_ok_of qp_h79
theorem qp_r79 : qp_rt 79 = some .int ∧ qp_mL 79 = 9 := by decide +kernel
theorem qp_f80 : qp_fv 80 1 0 0 := by unfold qp_fv; decide +kernel
theorem qp_ok80 : qp_ok (qp_o 80) (qp_b 80) qp_k80 := qp_ok_of qp_h80
theorem qp_r80 : qp_rt 80 = some .int ∧ qp_mL 80 = 3 := by decide +kernel
theorem qp_f81 : qp_fv 81 1 4 0 := by unfold qp_fv; decide +kernel
theorem qp_ok81 : qp_ok (qp_o 81) (qp_b 81) qp_k81 := qp_ok_of qp_h81
theorem qp_r81 : qp_rt 81 = some .boolean ∧ qp_mL 81 = 2 := by decide +kernel
theorem qp_f82 : qp_fv 82 1 0 0 := by unfold qp_fv; decide +kernel
theorem qp_ok82 : qp_ok (qp_o 82) (qp_b 82) qp_k82 := qp_ok_of qp_h82
theorem qp_r82 : qp_rt 82 = some .int ∧ qp_mL 82 = 3 := by decide +kernel
theorem qp_f83 : qp_fv 83 1 0 0 := by unfold qp_fv; decide +kernel
theorem qp_ok83 : qp_ok (qp_o 83) (qp_b 83) qp_k83 := qp_ok_of qp_h83
theorem qp_r83 : qp_rt 83 = some .int ∧ qp_mL 83 = 3 := by decide +kernel
theorem qp_f84 : qp_fv 84 1 4 0 := by unfold qp_fv; decide +kernel
theorem qp_ok84 : qp_ok (qp_o 84) (qp_b 84) qp_k84 := qp_ok_of qp_h84
theorem qp_r84 : qp_rt 84 = none ∧ qp_mL 84 = 3 := by decide +kernel
theorem qp_f85 : qp_fv 85 1 0 0 := by unfold qp_fv; decide +kernel
theorem qp_ok85 : qp_ok (qp_o 85) (qp_b 85) qp_k85 := qp_ok_of qp_h85
theorem qp_r85 : qp_rt 85 = some .int ∧ qp_mL 85 = 3 := by decide +kernel
theorem qp_f86 : qp_fv 86 1 4 0 := by unfold qp_fv; decide +kernel
theorem qp_ok86 : qp_ok (qp_o 86) (qp_b 86) qp_k86 := qp_ok_of qp_h86
theorem qp_r86 : qp_rt 86 = some .int ∧ qp_mL 86 = 2 := by decide +kernel
theorem qp_f87 : qp_fv 87 1 0 0 := by unfold qp_fv; decide +kernel
theorem qp_ok87 : qp_ok (qp_o 87) (qp_b 87) qp_k87 := qp_ok_of qp_h87
theorem qp_r87 : qp_rt 87 = some .int ∧ qp_mL 87 = 5 := by decide +kernel
theorem qp_f88 : qp_fv 88 1 0 0 := by unfold qp_fv; decide +kernel
theorem qp_ok88 : qp_ok (qp_o 88) (qp_b 88) qp_k88 := qp_ok_of qp_h88
theorem qp_r88 : qp_rt 88 = some .int ∧ qp_mL 88 = 2 := by decide +kernel
theorem qp_f89 : qp_fv 89 2 0 0 := by unfold qp_fv; decide +kernel
theorem qp_ok89 : qp_ok (qp_o 89) (qp_b 89) qp_k89 := qp_ok_of qp_h89
theorem qp_r89 : qp_rt 89 = some .int ∧ qp_mL 89 = 3 := by decide +kernel
theorem qp_f90 : qp_fv 90 1 4 0 := by unfold qp_fv; decide +kernel
theorem qp_ok90 : qp_ok (qp_o 90) (qp_b 90) qp_k90 := qp_ok_of qp_h90
theorem qp_r90 : qp_rt 90 = some .int ∧ qp_mL 90 = 2 := by decide +kernel
theorem qp_f91 : qp_fv 91 2 0 0 := by unfold qp_fv; decide +kernel
theorem qp_ok91 : qp_ok (qp_o 91) (qp_b 91) qp_k91 := qp_ok_of qp_h91
theorem qp_r91 : qp_rt 91 = some .int ∧ qp_mL 91 = 3 := by decide +kernel
theorem qp_f92 : qp_fv 92 2 0 0 := by unfold qp_fv; decide +kernel
theorem qp_ok92 : qp_ok (qp_o 92) (qp_b 92) qp_k92 := qp_ok_of qp_h92
theorem qp_r92 : qp_rt 92 = some .int ∧ qp_mL 92 = 3 := by decide +kernel
theorem qp_f93 : qp_fv 93 2 4 0 := by unfold qp_fv; decide +kernel
theorem qp_ok93 : qp_ok (qp_o 93) (qp_b 93) qp_k93 := qp_ok_of qp_h93
theorem qp_r93 : qp_rt 93 = some .int ∧ qp_mL 93 = 3 := by decide +kernel
theorem qp_f94 : qp_fv 94 1 0 0 := by unfold qp_fv; decide +kernel
theorem qp_ok94 : qp_ok (qp_o 94) (qp_b 94) qp_k94 := qp_ok_of qp_h94
theorem qp_r94 : qp_rt 94 = some .int ∧ qp_mL 94 = 6 := by decide +kernel
theorem qp_f95 : qp_fv 95 1 0 0 := by unfold qp_fv; decide +kernel
theorem qp_ok95 : qp_ok (qp_o 95) (qp_b 95) qp_k95 := qp_ok_of qp_h95
theorem qp_r95 : qp_rt 95 = some .int ∧ qp_mL 95 = 2 := by decide +kernel
theorem qp_f96 : qp_fv 96 4 0 0 := by unfold qp_fv; decide +kernel
theorem qp_ok96 : qp_ok (qp_o 96) (qp_b 96) qp_k96 := qp_ok_of qp_h96
theorem qp_r96 : qp_rt 96 = some .int ∧ qp_mL 96 = 8 := by decide +kernel
theorem qp_f97 : qp_fv 97 3 6 0 := by unfold qp_fv; decide +kernel
theorem qp_ok97 : qp_ok (qp_o 97) (qp_b 97) qp_k97 := qp_ok_of qp_h97
theorem qp_r97 : qp_rt 97 = some .int ∧ qp_mL 97 = 8 := by decide +kernel
theorem qp_f98 : qp_fv 98 2 6 0 := by unfold qp_fv; decide +kernel
theorem qp_ok98 : qp_ok (qp_o 98) (qp_b 98) qp_k98 := qp_ok_of qp_h98
theorem qp_r98 : qp_rt 98 = none ∧ qp_mL 98 = 4 := by decide +kernel
theorem qp_f99 : qp_fv 99 2 11 1 := by unfold qp_fv; decide +kernel
theorem qp_ok99 : qp_ok (qp_o 99) (qp_b 99) qp_k99 := qp_ok_of qp_h99
theorem qp_r99 : qp_rt 99 = some .int ∧ qp_mL 99 = 6 := by decide +kernel
theorem qp_f100 : qp_fv 100 1 12 1 := by unfold qp_fv; decide +kernel
theorem qp_ok100 : qp_ok (qp_o 100) (qp_b 100) qp_k100 := qp_ok_of qp_h100
theorem qp_r100 : qp_rt 100 = some .int ∧ qp_mL 100 = 1 := by decide +kernel
theorem qp_f101 : qp_fv 101 4 6 0 := by unfold qp_fv; decide +kernel
theorem qp_ok101 : qp_ok (qp_o 101) (qp_b 101) qp_k101 := qp_ok_of qp_h101
theorem qp_r101 : qp_rt 101 = some .boolean ∧ qp_mL 101 = 5 := by decide +kernel
theorem qp_f102 : qp_fv 102 2 6 0 := by unfold qp_fv; decide +kernel
theorem qp_ok102 : qp_ok (qp_o 102) (qp_b 102) qp_k102 := qp_ok_of qp_h102
theorem qp_r102 : qp_rt 102 = none ∧ qp_mL 102 = 6 := by decide +kernel
theorem qp_f103 : qp_fv 103 2 6 0 := by unfold qp_fv; decide +kernel
theorem qp_ok103 : qp_ok (qp_o 103) (qp_b 103) qp_k103 := qp_ok_of qp_h103
theorem qp_r103 : qp_rt 103 = some .int ∧ qp_mL 103 = 3 := by decide +kernel
theorem qp_f104 : qp_fv 104 1 0 0 := by unfold qp_fv; decide +kernel
theorem qp_ok104 : qp_ok (qp_o 104) (qp_b 104) qp_k104 := qp_ok_of qp_h104
theorem qp_r104 : qp_rt 104 = some .int ∧ qp_mL 104 = 3 := by decide +kernel
theorem qp_f105 : qp_fv 105 1 0 0 := by unfold qp_fv; decide +kernel
theorem qp_ok105 : qp_ok (qp_o 105) (qp_b 105) qp_k105 := qp_ok_of qp_h105
theorem qp_r105 : qp_rt 105 = some .int ∧ qp_mL 105 = 6 := by decide +kernel
theorem qp_f106 : qp_fv 106 1 0 0 := by unfold qp_fv; decide +kernel
theorem qp_ok106 : qp_ok (qp_o 106) (qp_b 106) qp_k106 := qp_ok_of qp_h106
theorem qp_r106 : qp_rt 106 = none ∧ qp_mL 106 = 4 := by decide +kernel
theorem qp_f107 : qp_fv 107 0 7 0 := by unfold qp_fv; decide +kernel
theorem qp_ok107 : qp_ok (qp_o 107) (qp_b 107) qp_k107 := qp_ok_of qp_h107
theorem qp_r107 : qp_rt 107 = none ∧ qp_mL 107 = 2 := by decide +kernel
theorem qp_f108 : qp_fv 108 2 7 0 := by unfold qp_fv; decide +kernel
theorem qp_ok108 : qp_ok (qp_o 108) (qp_b 108) qp_k108 := qp_ok_of qp_h108
theorem qp_r108 : qp_rt 108 = none ∧ qp_mL 108 = 3 := by decide +kernel
theorem qp_f109 : qp_fv 109 3 7 0 := by unfold qp_fv; decide +kernel
theorem qp_ok109 : qp_ok (qp_o 109) (qp_b 109) qp_k109 := qp_ok_of qp_h109
theorem qp_r109 : qp_rt 109 = none ∧ qp_mL 109 = 5 := by decide +kernel
theorem qp_f110 : qp_fv 110 1 7 0 := by unfold qp_fv; decide +kernel
theorem qp_ok110 : qp_ok (qp_o 110) (qp_b 110) qp_k110 := qp_ok_of qp_h110
theorem qp_r110 : qp_rt 110 = none ∧ qp_mL 110 = 5 := by decide +kernel
theorem qp_f111 : qp_fv 111 2 0 0 := by unfold qp_fv; decide +kernel
theorem qp_ok111 : qp_ok (qp_o 111) (qp_b 111) qp_k111 := qp_ok_of qp_h111
theorem qp_r111 : qp_rt 111 = some .int ∧ qp_mL 111 = 7 := by decide +kernel
theorem qp_f112 : qp_fv 112 2 0 1 := by unfold qp_fv; decide +kernel
theorem qp_ok112 : qp_ok (qp_o 112) (qp_b 112) qp_k112 := qp_ok_of qp_h112
theorem qp_r112 : qp_rt 112 = some .long ∧ qp_mL 112 = 11 := by decide +kernel
theorem qp_f113 : qp_fv 113 2 0 0 := by unfold qp_fv; decide +kernel
theorem qp_ok113 : qp_ok (qp_o 113) (qp_b 113) qp_k113 := qp_ok_of qp_h113
theorem qp_r113 : qp_rt 113 = some .int ∧ qp_mL 113 = 4 := by decide +kernel
theorem qp_f114 : qp_fv 114 1 7 0 := by unfold qp_fv; decide +kernel
theorem qp_ok114 : qp_ok (qp_o 114) (qp_b 114) qp_k114 := qp_ok_of qp_h114
theorem qp_r114 : qp_rt 114 = some .int ∧ qp_mL 114 = 2 := by decide +kernel
theorem qp_f115 : qp_fv 115 1 0 0 := by unfold qp_fv; decide +kernel
theorem qp_ok115 : qp_ok (qp_o 115) (qp_b 115) qp_k115 := qp_ok_of qp_h115
theorem qp_r115 : qp_rt 115 = some .int ∧ qp_mL 115 = 5 := by decide +kernel
theorem qp_f116 : qp_fv 116 1 7 0 := by unfold qp_fv; decide +kernel
theorem qp_ok116 : qp_ok (qp_o 116) (qp_b 116) qp_k116 := qp_ok_of qp_h116
theorem qp_r116 : qp_rt 116 = some .int ∧ qp_mL 116 = 4 := by decide +kernel
theorem qp_f117 : qp_fv 117 1 0 0 := by unfold qp_fv; decide +kernel
theorem qp_ok117 : qp_ok (qp_o 117) (qp_b 117) qp_k117 := qp_ok_of qp_h117
theorem qp_r117 : qp_rt 117 = some .int ∧ qp_mL 117 = 5 := by decide +kernel
theorem qp_f118 : qp_fv 118 1 5 0 := by unfold qp_fv; decide +kernel
theorem qp_ok118 : qp_ok (qp_o 118) (qp_b 118) qp_k118 := qp_ok_of qp_h118
theorem qp_r118 : qp_rt 118 = some .int ∧ qp_mL 118 = 4 := by decide +kernel
theorem qp_f119 : qp_fv 119 1 0 0 := by unfold qp_fv; decide +kernel
theorem qp_ok119 : qp_ok (qp_o 119) (qp_b 119) qp_k119 := qp_ok_of qp_h119
theorem qp_r119 : qp_rt 119 = some .int ∧ qp_mL 119 = 7 := by decide +kernel
theorem qp_f120 : qp_fv 120 3 0 0 := by unfold qp_fv; decide +kernel
theorem qp_ok120 : qp_ok (qp_o 120) (qp_b 120) qp_k120 := qp_ok_of qp_h120
theorem qp_r120 : qp_rt 120 = some .int ∧ qp_mL 120 = 4 := by decide +kernel
theorem qp_f121 : qp_fv 121 3 8 0 := by unfold qp_fv; decide +kernel
theorem qp_ok121 : qp_ok (qp_o 121) (qp_b 121) qp_k121 := qp_ok_of qp_h121
theorem qp_r121 : qp_rt 121 = some .int ∧ qp_mL 121 = 4 := by decide +kernel
theorem qp_f122 : qp_fv 122 2 8 0 := by unfold qp_fv; decide +kernel
theorem qp_ok122 : qp_ok (qp_o 122) (qp_b 122) qp_k122 := qp_ok_of qp_h122
theorem qp_r122 : qp_rt 122 = some .int ∧ qp_mL 122 = 8 := by decide +kernel
theorem qp_f123 : qp_fv 123 2 0 0 := by unfold qp_fv; decide +kernel
theorem qp_ok123 : qp_ok (qp_o 123) (qp_b 123) qp_k123 := qp_ok_of qp_h123
theorem qp_r123 : qp_rt 123 = some .int ∧ qp_mL 123 = 3 := by decide +kernel
theorem qp_f124 : qp_fv 124 2 9 0 := by unfold qp_fv; decide +kernel
theorem qp_ok124 : qp_ok (qp_o 124) (qp_b 124) qp_k124 := qp_ok_of qp_h124
theorem qp_r124 : qp_rt 124 = some .long ∧ qp_mL 124 = 6 := by decide +kernel
theorem qp_f125 : qp_fv 125 1 9 0 := by unfold qp_fv; decide +kernel
theorem qp_ok125 : qp_ok (qp_o 125) (qp_b 125) qp_k125 := qp_ok_of qp_h125
theorem qp_r125 : qp_rt 125 = none ∧ qp_mL 125 = 5 := by decide +kernel
theorem qp_f126 : qp_fv 126 1 9 0 := by unfold qp_fv; decide +kernel
theorem qp_ok126 : qp_ok (qp_o 126) (qp_b 126) qp_k126 := qp_ok_of qp_h126
theorem qp_r126 : qp_rt 126 = some .long ∧ qp_mL 126 = 2 := by decide +kernel
theorem qp_f127 : qp_fv 127 2 9 1 := by unfold qp_fv; decide +kernel
theorem qp_ok127 : qp_ok (qp_o 127) (qp_b 127) qp_k127 := qp_ok_of qp_h127
theorem qp_r127 : qp_rt 127 = some .long ∧ qp_mL 127 = 5 := by decide +kernel
theorem qp_f128 : qp_fv 128 0 9 0 := by unfold qp_fv; decide +kernel
theorem qp_ok128 : qp_ok (qp_o 128) (qp_b 128) qp_k128 := qp_ok_of qp_h128
theorem qp_r128 : qp_rt 128 = some .long ∧ qp_mL 128 = 1 := by decide +kernel
theorem qp_f129 : qp_fv 129 1 0 0 := by unfold qp_fv; decide +kernel
theorem qp_ok129 : qp_ok (qp_o 129) (qp_b 129) qp_k129 := qp_ok_of qp_h129
theorem qp_r129 : qp_rt 129 = some .int ∧ qp_mL 129 = 2 := by decide +kernel
theorem qp_f130 : qp_fv 130 1 9 0 := by unfold qp_fv; decide +kernel
theorem qp_ok130 : qp_ok (qp_o 130) (qp_b 130) qp_k130 := qp_ok_of qp_h130
theorem qp_r130 : qp_rt 130 = some .long ∧ qp_mL 130 = 5 := by decide +kernel
theorem qp_f131 : qp_fv 131 0 5 0 := by unfold qp_fv; decide +kernel
theorem qp_ok131 : qp_ok (qp_o 131) (qp_b 131) qp_k131 := qp_ok_of qp_h131
theorem qp_r131 : qp_rt 131 = some .int ∧ qp_mL 131 = 1 := by decide +kernel
theorem qp_f132 : qp_fv 132 2 0 0 := by unfold qp_fv; decide +kernel
theorem qp_ok132 : qp_ok (qp_o 132) (qp_b 132) qp_k132 := qp_ok_of qp_h132
theorem qp_r132 : qp_rt 132 = some .int ∧ qp_mL 132 = 6 := by decide +kernel
theorem qp_f133 : qp_fv 133 1 4 0 := by unfold qp_fv; decide +kernel
theorem qp_ok133 : qp_ok (qp_o 133) (qp_b 133) qp_k133 := qp_ok_of qp_h133
theorem qp_r133 : qp_rt 133 = none ∧ qp_mL 133 = 4 := by decide +kernel
theorem qp_f134 : qp_fv 134 0 5 0 := by unfold qp_fv; decide +kernel
theorem qp_ok134 : qp_ok (qp_o 134) (qp_b 134) qp_k134 := qp_ok_of qp_h134
theorem qp_r134 : qp_rt 134 = some .int ∧ qp_mL 134 = 1 := by decide +kernel
theorem qp_f135 : qp_fv 135 0 0 0 := by unfold qp_fv; decide +kernel
theorem qp_ok135 : qp_ok (qp_o 135) (qp_b 135) qp_k135 := qp_ok_of qp_h135
theorem qp_r135 : qp_rt 135 = some .int ∧ qp_mL 135 = 1 := by decide +kernel
theorem qp_f136 : qp_fv 136 0 0 0 := by unfold qp_fv; decide +kernel
theorem qp_ok136 : qp_ok (qp_o 136) (qp_b 136) qp_k136 := qp_ok_of qp_h136
theorem qp_r136 : qp_rt 136 = some .long ∧ qp_mL 136 = 1 := by decide +kernel
theorem qp_f137 : qp_fv 137 0 0 0 := by unfold qp_fv; decide +kernel
theorem qp_ok137 : qp_ok (qp_o 137) (qp_b 137) qp_k137 := qp_ok_of qp_h137
theorem qp_r137 : qp_rt 137 = some .long ∧ qp_mL 137 = 1 := by decide +kernel
theorem qp_f138 : qp_fv 138 1 0 0 := by unfold qp_fv; decide +kernel
theorem qp_ok138 : qp_ok (qp_o 138) (qp_b 138) qp_k138 := qp_ok_of qp_h138
theorem qp_r138 : qp_rt 138 = some .int ∧ qp_mL 138 = 2 := by decide +kernel
theorem qp_f139 : qp_fv 139 1 0 0 := by unfold qp_fv; decide +kernel
theorem qp_ok139 : qp_ok (qp_o 139) (qp_b 139) qp_k139 := qp_ok_of qp_h139
theorem qp_r139 : qp_rt 139 = some .int ∧ qp_mL 139 = 2 := by decide +kernel
theorem qp_f140 : qp_fv 140 1 3 0 := by unfold qp_fv; decide +kernel
theorem qp_ok140 : qp_ok (qp_o 140) (qp_b 140) qp_k140 := qp_ok_of qp_h140
theorem qp_r140 : qp_rt 140 = some .int ∧ qp_mL 140 = 4 := by decide +kernel
theorem qp_f141 : qp_fv 141 0 1 0 := by unfold qp_fv; decide +kernel
theorem qp_ok141 : qp_ok (qp_o 141) (qp_b 141) qp_k141 := qp_ok_of qp_h141
theorem qp_r141 : qp_rt 141 = some .int ∧ qp_mL 141 = 3 := by decide +kernel
theorem qp_f142 : qp_fv 142 0 0 0 := by unfold qp_fv; decide +kernel
theorem qp_ok142 : qp_ok (qp_o 142) (qp_b 142) qp_k142 := qp_ok_of qp_h142
theorem qp_r142 : qp_rt 142 = some .int ∧ qp_mL 142 = 1 := by decide +kernel
theorem qp_f143 : qp_fv 143 1 0 0 := by unfold qp_fv; decide +kernel
theorem qp_ok143 : qp_ok (qp_o 143) (qp_b 143) qp_k143 := qp_ok_of qp_h143
theorem qp_r143 : qp_rt 143 = some .int ∧ qp_mL 143 = 2 := by decide +kernel
theorem qp_f144 : qp_fv 144 0 0 0 := by unfold qp_fv; decide +kernel
theorem qp_ok144 : qp_ok (qp_o 144) (qp_b 144) qp_k144 := qp_ok_of qp_h144
theorem qp_r144 : qp_rt 144 = some .long ∧ qp_mL 144 = 5 := by decide +kernel
theorem qp_f145 : qp_fv 145 1 1 0 := by unfold qp_fv; decide +kernel
theorem qp_ok145 : qp_ok (qp_o 145) (qp_b 145) qp_k145 := qp_ok_of qp_h145
theorem qp_r145 : qp_rt 145 = some .long ∧ qp_mL 145 = 7 := by decide +kernel
theorem qp_f146 : qp_fv 146 0 10 2 := by unfold qp_fv; decide +kernel
theorem qp_ok146 : qp_ok (qp_o 146) (qp_b 146) qp_k146 := qp_ok_of qp_h146
theorem qp_r146 : qp_rt 146 = none ∧ qp_mL 146 = 2 := by decide +kernel
theorem qp_f147 : qp_fv 147 2 10 0 := by unfold qp_fv; decide +kernel
theorem qp_ok147 : qp_ok (qp_o 147) (qp_b 147) qp_k147 := qp_ok_of qp_h147
theorem qp_r147 : qp_rt 147 = some .int ∧ qp_mL 147 = 4 := by decide +kernel
theorem qp_f148 : qp_fv 148 1 10 1 := by unfold qp_fv; decide +kernel
theorem qp_ok148 : qp_ok (qp_o 148) (qp_b 148) qp_k148 := qp_ok_of qp_h148
theorem qp_r148 : qp_rt 148 = some .boolean ∧ qp_mL 148 = 1 := by decide +kernel
theorem qp_f149 : qp_fv 149 3 10 1 := by unfold qp_fv; decide +kernel
theorem qp_ok149 : qp_ok (qp_o 149) (qp_b 149) qp_k149 := qp_ok_of qp_h149
theorem qp_r149 : qp_rt 149 = some .boolean ∧ qp_mL 149 = 6 := by decide +kernel
theorem qp_f150 : qp_fv 150 1 10 0 := by unfold qp_fv; decide +kernel
theorem qp_ok150 : qp_ok (qp_o 150) (qp_b 150) qp_k150 := qp_ok_of qp_h150
theorem qp_r150 : qp_rt 150 = some .int ∧ qp_mL 150 = 2 := by decide +kernel
theorem qp_f151 : qp_fv 151 3 10 0 := by unfold qp_fv; decide +kernel
theorem qp_ok151 : qp_ok (qp_o 151) (qp_b 151) qp_k151 := qp_ok_of qp_h151
theorem qp_r151 : qp_rt 151 = some .int ∧ qp_mL 151 = 5 := by decide +kernel
theorem qp_f152 : qp_fv 152 2 10 0 := by unfold qp_fv; decide +kernel
theorem qp_ok152 : qp_ok (qp_o 152) (qp_b 152) qp_k152 := qp_ok_of qp_h152
theorem qp_r152 : qp_rt 152 = some .int ∧ qp_mL 152 = 3 := by decide +kernel
theorem qp_f153 : qp_fv 153 1 10 0 := by unfold qp_fv; decide +kernel
theorem qp_ok153 : qp_ok (qp_o 153) (qp_b 153) qp_k153 := qp_ok_of qp_h153
theorem qp_r153 : qp_rt 153 = some .int ∧ qp_mL 153 = 2 := by decide +kernel
theorem qp_f154 : qp_fv 154 1 10 0 := by unfold qp_fv; decide +kernel
theorem qp_ok154 : qp_ok (qp_o 154) (qp_b 154) qp_k154 := qp_ok_of qp_h154
theorem qp_r154 : qp_rt 154 = some .int ∧ qp_mL 154 = 2 := by decide +kernel
theorem qp_f155 : qp_fv 155 5 10 0 := by unfold qp_fv; decide +kernel
theorem qp_ok155 : qp_ok (qp_o 155) (qp_b 155) qp_k155 := qp_ok_of qp_h155
theorem qp_r155 : qp_rt 155 = some .int ∧ qp_mL 155 = 7 := by decide +kernel
theorem qp_f156 : qp_fv 156 1 10 0 := by unfold qp_fv; decide +kernel
theorem qp_ok156 : qp_ok (qp_o 156) (qp_b 156) qp_k156 := qp_ok_of qp_h156
theorem qp_r156 : qp_rt 156 = some .int ∧ qp_mL 156 = 5 := by decide +kernel
theorem qp_f157 : qp_fv 157 2 10 0 := by unfold qp_fv; decide +kernel
theorem qp_ok157 : qp_ok (qp_o 157) (qp_b 157) qp_k157 := qp_ok_of qp_h157
theorem qp_r157 : qp_rt 157 = some .int ∧ qp_mL 157 = 4 := by decide +kernel
theorem qp_f158 : qp_fv 158 1 10 1 := by unfold qp_fv; decide +kernel
theorem qp_ok158 : qp_ok (qp_o 158) (qp_b 158) qp_k158 := qp_ok_of qp_h158
theorem qp_r158 : qp_rt 158 = some .boolean ∧ qp_mL 158 = 1 := by decide +kernel
theorem qp_f159 : qp_fv 159 3 10 0 := by unfold qp_fv; decide +kernel
theorem qp_ok159 : qp_ok (qp_o 159) (qp_b 159) qp_k159 := qp_ok_of qp_h159
theorem qp_r159 : qp_rt 159 = some .int ∧ qp_mL 159 = 6 := by decide +kernel
theorem qp_f160 : qp_fv 160 1 10 0 := by unfold qp_fv; decide +kernel
theorem qp_ok160 : qp_ok (qp_o 160) (qp_b 160) qp_k160 := qp_ok_of qp_h160
theorem qp_r160 : qp_rt 160 = some .int ∧ qp_mL 160 = 2 := by decide +kernel
theorem qp_f161 : qp_fv 161 1 10 0 := by unfold qp_fv; decide +kernel
theorem qp_ok161 : qp_ok (qp_o 161) (qp_b 161) qp_k161 := qp_ok_of qp_h161
theorem qp_r161 : qp_rt 161 = some .int ∧ qp_mL 161 = 3 := by decide +kernel
theorem qp_f162 : qp_fv 162 1 10 0 := by unfold qp_fv; decide +kernel
theorem qp_ok162 : qp_ok (qp_o 162) (qp_b 162) qp_k162 := qp_ok_of qp_h162
theorem qp_r162 : qp_rt 162 = some .boolean ∧ qp_mL 162 = 4 := by decide +kernel
theorem qp_f163 : qp_fv 163 1 10 0 := by unfold qp_fv; decide +kernel
theorem qp_ok163 : qp_ok (qp_o 163) (qp_b 163) qp_k163 := qp_ok_of qp_h163
theorem qp_r163 : qp_rt 163 = none ∧ qp_mL 163 = 2 := by decide +kernel
theorem qp_f164 : qp_fv 164 1 10 0 := by unfold qp_fv; decide +kernel
theorem qp_ok164 : qp_ok (qp_o 164) (qp_b 164) qp_k164 := qp_ok_of qp_h164
theorem qp_r164 : qp_rt 164 = some .int ∧ qp_mL 164 = 2 := by decide +kernel
theorem qp_f165 : qp_fv 165 3 10 0 := by unfold qp_fv; decide +kernel
theorem qp_ok165 : qp_ok (qp_o 165) (qp_b 165) qp_k165 := qp_ok_of qp_h165
theorem qp_r165 : qp_rt 165 = some .boolean ∧ qp_mL 165 = 5 := by decide +kernel
theorem qp_f166 : qp_fv 166 1 10 0 := by unfold qp_fv; decide +kernel
theorem qp_ok166 : qp_ok (qp_o 166) (qp_b 166) qp_k166 := qp_ok_of qp_h166
theorem qp_r166 : qp_rt 166 = some .boolean ∧ qp_mL 166 = 4 := by decide +kernel
theorem qp_f167 : qp_fv 167 1 10 1 := by unfold qp_fv; decide +kernel
theorem qp_ok167 : qp_ok (qp_o 167) (qp_b 167) qp_k167 := qp_ok_of qp_h167
theorem qp_r167 : qp_rt 167 = some .int ∧ qp_mL 167 = 1 := by decide +kernel
theorem qp_f168 : qp_fv 168 1 10 0 := by unfold qp_fv; decide +kernel
theorem qp_ok168 : qp_ok (qp_o 168) (qp_b 168) qp_k168 := qp_ok_of qp_h168
theorem qp_r168 : qp_rt 168 = some .int ∧ qp_mL 168 = 3 := by decide +kernel
theorem qp_f169 : qp_fv 169 1 10 1 := by unfold qp_fv; decide +kernel
theorem qp_ok169 : qp_ok (qp_o 169) (qp_b 169) qp_k169 := qp_ok_of qp_h169
theorem qp_r169 : qp_rt 169 = none ∧ qp_mL 169 = 2 := by decide +kernel
theorem qp_f170 : qp_fv 170 2 10 0 := by unfold qp_fv; decide +kernel
theorem qp_ok170 : qp_ok (qp_o 170) (qp_b 170) qp_k170 := qp_ok_of qp_h170
theorem qp_r170 : qp_rt 170 = some .int ∧ qp_mL 170 = 3 := by decide +kernel
theorem qp_f171 : qp_fv 171 1 10 0 := by unfold qp_fv; decide +kernel
theorem qp_ok171 : qp_ok (qp_o 171) (qp_b 171) qp_k171 := qp_ok_of qp_h171
theorem qp_r171 : qp_rt 171 = some .boolean ∧ qp_mL 171 = 2 := by decide +kernel
theorem qp_f172 : qp_fv 172 2 10 0 := by unfold qp_fv; decide +kernel
theorem qp_ok172 : qp_ok (qp_o 172) (qp_b 172) qp_k172 := qp_ok_of qp_h172
theorem qp_r172 : qp_rt 172 = some .int ∧ qp_mL 172 = 3 := by decide +kernel
theorem qp_f173 : qp_fv 173 0 10 0 := by unfold qp_fv; decide +kernel
theorem qp_ok173 : qp_ok (qp_o 173) (qp_b 173) qp_k173 := qp_ok_of qp_h173
theorem qp_r173 : qp_rt 173 = none ∧ qp_mL 173 = 1 := by decide +kernel
theorem qp_f174 : qp_fv 174 3 10 0 := by unfold qp_fv; decide +kernel
theorem qp_ok174 : qp_ok (qp_o 174) (qp_b 174) qp_k174 := qp_ok_of qp_h174
theorem qp_r174 : qp_rt 174 = none ∧ qp_mL 174 = 8 := by decide +kernel
theorem qp_f175 : qp_fv 175 1 10 1 := by unfold qp_fv; decide +kernel
theorem qp_ok175 : qp_ok (qp_o 175) (qp_b 175) qp_k175 := qp_ok_of qp_h175
theorem qp_r175 : qp_rt 175 = some .boolean ∧ qp_mL 175 = 1 := by decide +kernel
theorem qp_f176 : qp_fv 176 2 10 1 := by unfold qp_fv; decide +kernel
theorem qp_ok176 : qp_ok (qp_o 176) (qp_b 176) qp_k176 := qp_ok_of qp_h176
theorem qp_r176 : qp_rt 176 = some .int ∧ qp_mL 176 = 2 := by decide +kernel
theorem qp_f177 : qp_fv 177 1 10 0 := by unfold qp_fv; decide +kernel
theorem qp_ok177 : qp_ok (qp_o 177) (qp_b 177) qp_k177 := qp_ok_of qp_h177
theorem qp_r177 : qp_rt 177 = some .int ∧ qp_mL 177 = 2 := by decide +kernel
theorem qp_f178 : qp_fv 178 4 10 1 := by unfold qp_fv; decide +kernel
theorem qp_ok178 : qp_ok (qp_o 178) (qp_b 178) qp_k178 := qp_ok_of qp_h178
theorem qp_r178 : qp_rt 178 = some .int ∧ qp_mL 178 = 5 := by decide +kernel
theorem qp_f179 : qp_fv 179 1 10 0 := by unfold qp_fv; decide +kernel
theorem qp_ok179 : qp_ok (qp_o 179) (qp_b 179) qp_k179 := qp_ok_of qp_h179
theorem qp_r179 : qp_rt 179 = some .int ∧ qp_mL 179 = 4 := by decide +kernel
theorem qp_f180 : qp_fv 180 2 10 0 := by unfold qp_fv; decide +kernel
theorem qp_ok180 : qp_ok (qp_o 180) (qp_b 180) qp_k180 := qp_ok_of qp_h180
theorem qp_r180 : qp_rt 180 = some .int ∧ qp_mL 180 = 3 := by decide +kernel
theorem qp_f181 : qp_fv 181 2 10 1 := by unfold qp_fv; decide +kernel
theorem qp_ok181 : qp_ok (qp_o 181) (qp_b 181) qp_k181 := qp_ok_of qp_h181
theorem qp_r181 : qp_rt 181 = some .boolean ∧ qp_mL 181 = 2 := by decide +kernel
theorem qp_f182 : qp_fv 182 1 10 0 := by unfold qp_fv; decide +kernel
theorem qp_ok182 : qp_ok (qp_o 182) (qp_b 182) qp_k182 := qp_ok_of qp_h182
theorem qp_r182 : qp_rt 182 = some .int ∧ qp_mL 182 = 4 := by decide +kernel
theorem qp_f183 : qp_fv 183 2 10 0 := by unfold qp_fv; decide +kernel
theorem qp_ok183 : qp_ok (qp_o 183) (qp_b 183) qp_k183 := qp_ok_of qp_h183
theorem qp_r183 : qp_rt 183 = some .int ∧ qp_mL 183 = 4 := by decide +kernel
theorem qp_f184 : qp_fv 184 1 10 0 := by unfold qp_fv; decide +kernel
theorem qp_ok184 : qp_ok (qp_o 184) (qp_b 184) qp_k184 := qp_ok_of qp_h184
theorem qp_r184 : qp_rt 184 = some .int ∧ qp_mL 184 = 2 := by decide +kernel
theorem qp_f185 : qp_fv 185 2 10 1 := by unfold qp_fv; decide +kernel
theorem qp_ok185 : qp_ok (qp_o 185) (qp_b 185) qp_k185 := qp_ok_of qp_h185
theorem qp_r185 : qp_rt 185 = some .int ∧ qp_mL 185 = 2 := by decide +kernel
theorem qp_f186 : qp_fv 186 2 10 1 := by unfold qp_fv; decide +kernel
theorem qp_ok186 : qp_ok (qp_o 186) (qp_b 186) qp_k186 := qp_ok_of qp_h186
theorem qp_r186 : qp_rt 186 = some .int ∧ qp_mL 186 = 7 := by decide +kernel
theorem qp_f187 : qp_fv 187 1 10 1 := by unfold qp_fv; decide +kernel
theorem qp_ok187 : qp_ok (qp_o 187) (qp_b 187) qp_k187 := qp_ok_of qp_h187
theorem qp_r187 : qp_rt 187 = none ∧ qp_mL 187 = 2 := by decide +kernel
theorem qp_f188 : qp_fv 188 5 10 1 := by unfold qp_fv; decide +kernel
theorem qp_ok188 : qp_ok (qp_o 188) (qp_b 188) qp_k188 := qp_ok_of qp_h188
theorem qp_r188 : qp_rt 188 = none ∧ qp_mL 188 = 6 := by decide +kernel
theorem qp_f189 : qp_fv 189 1 10 0 := by unfold qp_fv; decide +kernel
theorem qp_ok189 : qp_ok (qp_o 189) (qp_b 189) qp_k189 := qp_ok_of qp_h189
theorem qp_r189 : qp_rt 189 = some .int ∧ qp_mL 189 = 2 := by decide +kernel
theorem qp_f190 : qp_fv 190 1 10 0 := by unfold qp_fv; decide +kernel
theorem qp_ok190 : qp_ok (qp_o 190) (qp_b 190) qp_k190 := qp_ok_of qp_h190
theorem qp_r190 : qp_rt 190 = some .boolean ∧ qp_mL 190 = 2 := by decide +kernel
theorem qp_f191 : qp_fv 191 1 10 0 := by unfold qp_fv; decide +kernel
theorem qp_ok191 : qp_ok (qp_o 191) (qp_b 191) qp_k191 := qp_ok_of qp_h191
theorem qp_r191 : qp_rt 191 = some .int ∧ qp_mL 191 = 4 := by decide +kernel
theorem qp_f192 : qp_fv 192 1 10 0 := by unfold qp_fv; decide +kernel
theorem qp_ok192 : qp_ok (qp_o 192) (qp_b 192) qp_k192 := qp_ok_of qp_h192
theorem qp_r192 : qp_rt 192 = some .int ∧ qp_mL 192 = 5 := by decide +kernel
theorem qp_f193 : qp_fv 193 1 10 0 := by unfold qp_fv; decide +kernel
theorem qp_ok193 : qp_ok (qp_o 193) (qp_b 193) qp_k193 := qp_ok_of qp_h193
theorem qp_r193 : qp_rt 193 = some .int ∧ qp_mL 193 = 3 := by decide +kernel
theorem qp_f194 : qp_fv 194 1 10 1 := by unfold qp_fv; decide +kernel
theorem qp_ok194 : qp_ok (qp_o 194) (qp_b 194) qp_k194 := qp_ok_of qp_h194
theorem qp_r194 : qp_rt 194 = some .boolean ∧ qp_mL 194 = 1 := by decide +kernel
theorem qp_f195 : qp_fv 195 1 10 0 := by unfold qp_fv; decide +kernel
theorem qp_ok195 : qp_ok (qp_o 195) (qp_b 195) qp_k195 := qp_ok_of qp_h195
theorem qp_r195 : qp_rt 195 = some .int ∧ qp_mL 195 = 3 := by decide +kernel
theorem qp_f196 : qp_fv 196 1 10 0 := by unfold qp_fv; decide +kernel
theorem qp_ok196 : qp_ok (qp_o 196) (qp_b 196) qp_k196 := qp_ok_of qp_h196
theorem qp_r196 : qp_rt 196 = some .int ∧ qp_mL 196 = 2 := by decide +kernel
theorem qp_f197 : qp_fv 197 2 10 0 := by unfold qp_fv; decide +kernel
theorem qp_ok197 : qp_ok (qp_o 197) (qp_b 197) qp_k197 := qp_ok_of qp_h197
theorem qp_r197 : qp_rt 197 = some .int ∧ qp_mL 197 = 3 := by decide +kernel
theorem qp_f198 : qp_fv 198 2 10 0 := by unfold qp_fv; decide +kernel
theorem qp_ok198 : qp_ok (qp_o 198) (qp_b 198) qp_k198 := qp_ok_of qp_h198
theorem qp_r198 : qp_rt 198 = some .int ∧ qp_mL 198 = 3 := by decide +kernel
theorem qp_f199 : qp_fv 199 2 10 0 := by unfold qp_fv; decide +kernel
theorem qp_ok199 : qp_ok (qp_o 199) (qp_b 199) qp_k199 := qp_ok_of qp_h199
theorem qp_r199 : qp_rt 199 = some .int ∧ qp_mL 199 = 3 := by decide +kernel
theorem qp_f200 : qp_fv 200 2 10 0 := by unfold qp_fv; decide +kernel
theorem qp_ok200 : qp_ok (qp_o 200) (qp_b 200) qp_k200 := qp_ok_of qp_h200
theorem qp_r200 : qp_rt 200 = some .int ∧ qp_mL 200 = 3 := by decide +kernel
theorem qp_f201 : qp_fv 201 0 10 0 := by unfold qp_fv; decide +kernel
theorem qp_ok201 : qp_ok (qp_o 201) (qp_b 201) qp_k201 := qp_ok_of qp_h201
theorem qp_r201 : qp_rt 201 = none ∧ qp_mL 201 = 2 := by decide +kernel
theorem qp_f202 : qp_fv 202 1 10 0 := by unfold qp_fv; decide +kernel
theorem qp_ok202 : qp_ok (qp_o 202) (qp_b 202) qp_k202 := qp_ok_of qp_h202
theorem qp_r202 : qp_rt 202 = some .int ∧ qp_mL 202 = 6 := by decide +kernel
theorem qp_f203 : qp_fv 203 1 10 0 := by unfold qp_fv; decide +kernel
theorem qp_ok203 : qp_ok (qp_o 203) (qp_b 203) qp_k203 := qp_ok_of qp_h203
theorem qp_r203 : qp_rt 203 = some .int ∧ qp_mL 203 = 2 := by decide +kernel
theorem qp_f204 : qp_fv 204 4 10 0 := by unfold qp_fv; decide +kernel
theorem qp_ok204 : qp_ok (qp_o 204) (qp_b 204) qp_k204 := qp_ok_of qp_h204
theorem qp_r204 : qp_rt 204 = some .int ∧ qp_mL 204 = 9 := by decide +kernel
theorem qp_f205 : qp_fv 205 5 10 0 := by unfold qp_fv; decide +kernel
theorem qp_ok205 : qp_ok (qp_o 205) (qp_b 205) qp_k205 := qp_ok_of qp_h205
theorem qp_r205 : qp_rt 205 = some .boolean ∧ qp_mL 205 = 12 := by decide +kernel
theorem qp_f206 : qp_fv 206 1 10 0 := by unfold qp_fv; decide +kernel
theorem qp_ok206 : qp_ok (qp_o 206) (qp_b 206) qp_k206 := qp_ok_of qp_h206
theorem qp_r206 : qp_rt 206 = some .int ∧ qp_mL 206 = 5 := by decide +kernel
theorem qp_f207 : qp_fv 207 1 10 0 := by unfold qp_fv; decide +kernel
theorem qp_ok207 : qp_ok (qp_o 207) (qp_b 207) qp_k207 := qp_ok_of qp_h207
theorem qp_r207 : qp_rt 207 = some .int ∧ qp_mL 207 = 3 := by decide +kernel
theorem qp_f208 : qp_fv 208 0 10 0 := by unfold qp_fv; decide +kernel
theorem qp_ok208 : qp_ok (qp_o 208) (qp_b 208) qp_k208 := qp_ok_of qp_h208
theorem qp_r208 : qp_rt 208 = some .int ∧ qp_mL 208 = 3 := by decide +kernel
theorem qp_f209 : qp_fv 209 2 10 0 := by unfold qp_fv; decide +kernel
theorem qp_ok209 : qp_ok (qp_o 209) (qp_b 209) qp_k209 := qp_ok_of qp_h209
theorem qp_r209 : qp_rt 209 = some .boolean ∧ qp_mL 209 = 5 := by decide +kernel
theorem qp_f210 : qp_fv 210 1 10 0 := by unfold qp_fv; decide +kernel
theorem qp_ok210 : qp_ok (qp_o 210) (qp_b 210) qp_k210 := qp_ok_of qp_h210
theorem qp_r210 : qp_rt 210 = none ∧ qp_mL 210 = 9 := by decide +kernel
theorem qp_f211 : qp_fv 211 2 10 1 := by unfold qp_fv; decide +kernel
theorem qp_ok211 : qp_ok (qp_o 211) (qp_b 211) qp_k211 := qp_ok_of qp_h211
theorem qp_r211 : qp_rt 211 = some .boolean ∧ qp_mL 211 = 2 := by decide +kernel
theorem qp_f212 : qp_fv 212 2 10 0 := by unfold qp_fv; decide +kernel
theorem qp_ok212 : qp_ok (qp_o 212) (qp_b 212) qp_k212 := qp_ok_of qp_h212
theorem qp_r212 : qp_rt 212 = some .int ∧ qp_mL 212 = 6 := by decide +kernel
theorem qp_f213 : qp_fv 213 1 10 0 := by unfold qp_fv; decide +kernel
theorem qp_ok213 : qp_ok (qp_o 213) (qp_b 213) qp_k213 := qp_ok_of qp_h213
theorem qp_r213 : qp_rt 213 = some .int ∧ qp_mL 213 = 9 := by decide +kernel
theorem qp_f214 : qp_fv 214 1 10 0 := by unfold qp_fv; decide +kernel
theorem qp_ok214 : qp_ok (qp_o 214) (qp_b 214) qp_k214 := qp_ok_of qp_h214
theorem qp_r214 : qp_rt 214 = some .int ∧ qp_mL 214 = 5 := by decide +kernel
theorem qp_f215 : qp_fv 215 1 10 0 := by unfold qp_fv; decide +kernel
theorem qp_ok215 : qp_ok (qp_o 215) (qp_b 215) qp_k215 := qp_ok_of qp_h215
theorem qp_r215 : qp_rt 215 = some .int ∧ qp_mL 215 = 5 := by decide +kernel
theorem qp_f216 : qp_fv 216 1 10 0 := by unfold qp_fv; decide +kernel
theorem qp_ok216 : qp_ok (qp_o 216) (qp_b 216) qp_k216 := qp_ok_of qp_h216
theorem qp_r216 : qp_rt 216 = some .int ∧ qp_mL 216 = 7 := by decide +kernel
theorem qp_f217 : qp_fv 217 3 10 0 := by unfold qp_fv; decide +kernel
theorem qp_ok217 : qp_ok (qp_o 217) (qp_b 217) qp_k217 := qp_ok_of qp_h217
theorem qp_r217 : qp_rt 217 = some .int ∧ qp_mL 217 = 10 := by decide +kernel
theorem qp_f218 : qp_fv 218 1 10 1 := by unfold qp_fv; decide +kernel
theorem qp_ok218 : qp_ok (qp_o 218) (qp_b 218) qp_k218 := qp_ok_of qp_h218
theorem qp_r218 : qp_rt 218 = some .int ∧ qp_mL 218 = 1 := by decide +kernel
theorem qp_f219 : qp_fv 219 3 10 0 := by unfold qp_fv; decide +kernel
theorem qp_ok219 : qp_ok (qp_o 219) (qp_b 219) qp_k219 := qp_ok_of qp_h219
theorem qp_r219 : qp_rt 219 = some .int ∧ qp_mL 219 = 5 := by decide +kernel
theorem qp_f220 : qp_fv 220 2 10 0 := by unfold qp_fv; decide +kernel
theorem qp_ok220 : qp_ok (qp_o 220) (qp_b 220) qp_k220 := qp_ok_of qp_h220
theorem qp_r220 : qp_rt 220 = some .int ∧ qp_mL 220 = 3 := by decide +kernel
theorem qp_f221 : qp_fv 221 2 10 0 := by unfold qp_fv; decide +kernel
theorem qp_ok221 : qp_ok (qp_o 221) (qp_b 221) qp_k221 := qp_ok_of qp_h221
theorem qp_r221 : qp_rt 221 = none ∧ qp_mL 221 = 13 := by decide +kernel
theorem qp_f222 : qp_fv 222 2 10 0 := by unfold qp_fv; decide +kernel
theorem qp_ok222 : qp_ok (qp_o 222) (qp_b 222) qp_k222 := qp_ok_of qp_h222
theorem qp_r222 : qp_rt 222 = none ∧ qp_mL 222 = 11 := by decide +kernel
theorem qp_f223 : qp_fv 223 1 10 0 := by unfold qp_fv; decide +kernel
theorem qp_ok223 : qp_ok (qp_o 223) (qp_b 223) qp_k223 := qp_ok_of qp_h223
theorem qp_r223 : qp_rt 223 = some .int ∧ qp_mL 223 = 2 := by decide +kernel
theorem qp_f224 : qp_fv 224 2 10 0 := by unfold qp_fv; decide +kernel
theorem qp_ok224 : qp_ok (qp_o 224) (qp_b 224) qp_k224 := qp_ok_of qp_h224
theorem qp_r224 : qp_rt 224 = some .int ∧ qp_mL 224 = 7 := by decide +kernel
theorem qp_f225 : qp_fv 225 1 10 0 := by unfold qp_fv; decide +kernel
theorem qp_ok225 : qp_ok (qp_o 225) (qp_b 225) qp_k225 := qp_ok_of qp_h225
theorem qp_r225 : qp_rt 225 = some .int ∧ qp_mL 225 = 8 := by decide +kernel
theorem qp_f226 : qp_fv 226 0 10 0 := by unfold qp_fv; decide +kernel
theorem qp_ok226 : qp_ok (qp_o 226) (qp_b 226) qp_k226 := qp_ok_of qp_h226
theorem qp_r226 : qp_rt 226 = some .int ∧ qp_mL 226 = 3 := by decide +kernel
theorem qp_f227 : qp_fv 227 0 10 0 := by unfold qp_fv; decide +kernel
theorem qp_ok227 : qp_ok (qp_o 227) (qp_b 227) qp_k227 := qp_ok_of qp_h227
theorem qp_r227 : qp_rt 227 = some .int ∧ qp_mL 227 = 1 := by decide +kernel
theorem qp_f228 : qp_fv 228 0 10 0 := by unfold qp_fv; decide +kernel
theorem qp_ok228 : qp_ok (qp_o 228) (qp_b 228) qp_k228 := qp_ok_of qp_h228
theorem qp_r228 : qp_rt 228 = some .long ∧ qp_mL 228 = 1 := by decide +kernel
theorem qp_f229 : qp_fv 229 0 10 0 := by unfold qp_fv; decide +kernel
theorem qp_ok229 : qp_ok (qp_o 229) (qp_b 229) qp_k229 := qp_ok_of qp_h229
theorem qp_r229 : qp_rt 229 = some .long ∧ qp_mL 229 = 1 := by decide +kernel
theorem qp_f230 : qp_fv 230 1 10 0 := by unfold qp_fv; decide +kernel
theorem qp_ok230 : qp_ok (qp_o 230) (qp_b 230) qp_k230 := qp_ok_of qp_h230
theorem qp_r230 : qp_rt 230 = some .int ∧ qp_mL 230 = 2 := by decide +kernel
theorem qp_f231 : qp_fv 231 1 10 0 := by unfold qp_fv; decide +kernel
theorem qp_ok231 : qp_ok (qp_o 231) (qp_b 231) qp_k231 := qp_ok_of qp_h231
theorem qp_r231 : qp_rt 231 = some .int ∧ qp_mL 231 = 2 := by decide +kernel
theorem qp_f232 : qp_fv 232 1 10 0 := by unfold qp_fv; decide +kernel
theorem qp_ok232 : qp_ok (qp_o 232) (qp_b 232) qp_k232 := qp_ok_of qp_h232
theorem qp_r232 : qp_rt 232 = some .int ∧ qp_mL 232 = 5 := by decide +kernel
theorem qp_f233 : qp_fv 233 1 10 0 := by unfold qp_fv; decide +kernel
theorem qp_ok233 : qp_ok (qp_o 233) (qp_b 233) qp_k233 := qp_ok_of qp_h233
theorem qp_r233 : qp_rt 233 = some .int ∧ qp_mL 233 = 4 := by decide +kernel
theorem qp_f234 : qp_fv 234 2 10 1 := by unfold qp_fv; decide +kernel
theorem qp_ok234 : qp_ok (qp_o 234) (qp_b 234) qp_k234 := qp_ok_of qp_h234
theorem qp_r234 : qp_rt 234 = some .int ∧ qp_mL 234 = 4 := by decide +kernel
theorem qp_f235 : qp_fv 235 0 10 0 := by unfold qp_fv; decide +kernel
theorem qp_ok235 : qp_ok (qp_o 235) (qp_b 235) qp_k235 := qp_ok_of qp_h235
theorem qp_r235 : qp_rt 235 = some .int ∧ qp_mL 235 = 1 := by decide +kernel
theorem qp_f236 : qp_fv 236 1 10 0 := by unfold qp_fv; decide +kernel
theorem qp_ok236 : qp_ok (qp_o 236) (qp_b 236) qp_k236 := qp_ok_of qp_h236
theorem qp_r236 : qp_rt 236 = some .int ∧ qp_mL 236 = 2 := by decide +kernel
theorem qp_f237 : qp_fv 237 0 10 0 := by unfold qp_fv; decide +kernel
theorem qp_ok237 : qp_ok (qp_o 237) (qp_b 237) qp_k237 := qp_ok_of qp_h237
theorem qp_r237 : qp_rt 237 = some .long ∧ qp_mL 237 = 5 := by decide +kernel
/-- the end of a method: what it answers, and the ints and longs then -/
def qp_R8 (v : Option Value) (I : Nat → Nat → Int32) (J : Nat → Nat → Int64) : Option Value → qp_M → Prop := fun r M => r = v ∧ M = qp_mk I J
def qp_R9 (P : Option Value → (Nat → Nat → Int32) → (Nat → Nat → Int64) → Prop) : Option Value → qp_M → Prop := fun r M => ∃ I J, M = qp_mk I J ∧ P r I J
section QPM
variable {l : Launch} {G : qp_G} {d mi : Nat} {I0 : Nat → Nat → Int32} {J0 : Nat → Nat → Int64} {Q : Option Value → qp_M → Prop} {K : List (List (Nat × Instr × Int32 × Nat))}
theorem qp_cV (hK : qp_ok (qp_o mi) (qp_b mi) K) {pc d' mj ix t b na oj : Nat} {v : Int32} {L : List (Option Value)} {st rest av : List Value} {I I' : Nat → Nat → Int32} {J J' : Nat → Nat → Int64} {rv : Option Value}
    (hj : qp_fv mj na oj 0) (hf : qp_ft8 K pc = some (.invokevirtual ix, v, t)) (hmi : (Nat.beq t (10 * mj) || Nat.beq t (10 * mj + 3)) = true) (hM : qp_Met l G d' mj (.ref b :: av) (qp_mk I J) 0 0 (qp_R8 rv I' J')) (hal : qp_len av = na) (hst : st = av.reverse ++ .ref b :: rest) (hb8 : (Nat.blt b 58 && (Nat.beq (qp_S0 b).1 oj && Nat.blt oj 11)) = true) (hcat : Nat.ble (qp_cat rest) 8 = true) (hd : d' + 1 ≤ d)
    (k : qp_E l G d mi (qp_mk I0 J0) 0 0 Q (pc + 3, L, rv.toList ++ rest, qp_mk I' J')) : qp_E l G d mi (qp_mk I0 J0) 0 0 Q (pc, L, st, qp_mk I J) := by
  obtain ⟨j1, j2, j3, j4⟩ := hj
  obtain ⟨b1, b2⟩ := qp_and hb8
  obtain ⟨b3, b4⟩ := qp_and b2
  refine qp_callV_E hK hf ?_ j1 ⟨by unfold qp_sta; rw [j4]; rfl, by unfold qp_ini; rw [j4]; rfl⟩ (by rw [j2, ← hal, qp_len_eq]) (by rw [j3]; exact qp_blt b4) hM hst (by rw [j3, b3, Bool.and_true]; exact b1) hcat ⟨hd, by show 58 - 58 + 0 ≤ 0; omega, by show 4071 - 4071 + 0 ≤ 0; omega⟩ (Or.inl rfl) (fun r M' h1 _ _ => ?_)
  · rcases (Bool.or_eq_true _ _).mp hmi with q | q
    · exact Or.inl (Nat.eq_of_beq_eq_true q)
    · exact Or.inr (Nat.eq_of_beq_eq_true q)
  · obtain ⟨rfl, rfl⟩ := h1
    exact k
theorem qp_cV9 (hK : qp_ok (qp_o mi) (qp_b mi) K) {pc d' mj ix t b na oj : Nat} {v : Int32} {L : List (Option Value)} {st rest av : List Value} {I : Nat → Nat → Int32} {J : Nat → Nat → Int64} {P : Option Value → (Nat → Nat → Int32) → (Nat → Nat → Int64) → Prop}
    (hj : qp_fv mj na oj 0) (hf : qp_ft8 K pc = some (.invokevirtual ix, v, t)) (hmi : (Nat.beq t (10 * mj) || Nat.beq t (10 * mj + 3)) = true) (hM : qp_Met l G d' mj (.ref b :: av) (qp_mk I J) 0 0 (qp_R9 P)) (hal : qp_len av = na) (hst : st = av.reverse ++ .ref b :: rest) (hb8 : (Nat.blt b 58 && (Nat.beq (qp_S0 b).1 oj && Nat.blt oj 11)) = true) (hcat : Nat.ble (qp_cat rest) 8 = true) (hd : d' + 1 ≤ d)
    (k : ∀ r I' J', P r I' J' → qp_E l G d mi (qp_mk I0 J0) 0 0 Q (pc + 3, L, r.toList ++ rest, qp_mk I' J')) : qp_E l G d mi (qp_mk I0 J0) 0 0 Q (pc, L, st, qp_mk I J) := by
  obtain ⟨j1, j2, j3, j4⟩ := hj
  obtain ⟨b1, b2⟩ := qp_and hb8
  obtain ⟨b3, b4⟩ := qp_and b2
  refine qp_callV_E hK hf ?_ j1 ⟨by unfold qp_sta; rw [j4]; rfl, by unfold qp_ini; rw [j4]; rfl⟩ (by rw [j2, ← hal, qp_len_eq]) (by rw [j3]; exact qp_blt b4) hM hst (by rw [j3, b3, Bool.and_true]; exact b1) hcat ⟨hd, by show 58 - 58 + 0 ≤ 0; omega, by show 4071 - 4071 + 0 ≤ 0; omega⟩ (Or.inl rfl) (fun r M' h1 _ _ => ?_)
  · rcases (Bool.or_eq_true _ _).mp hmi with q | q
    · exact Or.inl (Nat.eq_of_beq_eq_true q)
    · exact Or.inr (Nat.eq_of_beq_eq_true q)
  · obtain ⟨I', J', rfl, h2⟩ := h1
    exact k r I' J' h2
theorem qp_cS (hK : qp_ok (qp_o mi) (qp_b mi) K) {pc d' mj ix t na oj : Nat} {v : Int32} {L : List (Option Value)} {st rest av : List Value} {I I' : Nat → Nat → Int32} {J J' : Nat → Nat → Int64} {rv : Option Value}
    (hj : qp_fv mj na oj 1) (hf : qp_ft8 K pc = some (.invokestatic ix, v, t)) (hmi : Nat.beq t (10 * mj + 1) = true) (hM : qp_Met l G d' mj av (qp_mk I J) 0 0 (qp_R8 rv I' J')) (hal : qp_len av = na) (hst : st = av.reverse ++ rest) (hcat : Nat.ble (qp_cat rest) 8 = true) (hd : d' + 1 ≤ d)
    (k : qp_E l G d mi (qp_mk I0 J0) 0 0 Q (pc + 3, L, rv.toList ++ rest, qp_mk I' J')) : qp_E l G d mi (qp_mk I0 J0) 0 0 Q (pc, L, st, qp_mk I J) := by
  obtain ⟨j1, j2, j3, j4⟩ := hj
  refine qp_callS_E hK hf (Nat.eq_of_beq_eq_true hmi) j1 (by unfold qp_sta; rw [j4]; rfl) (by rw [j2, ← hal, qp_len_eq]) hM hst hcat ⟨hd, by show 58 - 58 + 0 ≤ 0; omega, by show 4071 - 4071 + 0 ≤ 0; omega⟩ (Or.inl rfl) (fun r M' h1 _ _ => ?_)
  obtain ⟨rfl, rfl⟩ := h1
  exact k
theorem qp_cS9 (hK : qp_ok (qp_o mi) (qp_b mi) K) {pc d' mj ix t na oj : Nat} {v : Int32} {L : List (Option Value)} {st rest av : List Value} {I : Nat → Nat → Int32} {J : Nat → Nat → Int64} {P : Option Value → (Nat → Nat → Int32) → (Nat → Nat → Int64) → Prop}
    (hj : qp_fv mj na oj 1) (hf : qp_ft8 K pc = some (.invokestatic ix, v, t)) (hmi : Nat.beq t (10 * mj + 1) = true) (hM : qp_Met l G d' mj av (qp_mk I J) 0 0 (qp_R9 P)) (hal : qp_len av = na) (hst : st = av.reverse ++ rest) (hcat : Nat.ble (qp_cat rest) 8 = true) (hd : d' + 1 ≤ d)
    (k : ∀ r I' J', P r I' J' → qp_E l G d mi (qp_mk I0 J0) 0 0 Q (pc + 3, L, r.toList ++ rest, qp_mk I' J')) : qp_E l G d mi (qp_mk I0 J0) 0 0 Q (pc, L, st, qp_mk I J) := by
  obtain ⟨j1, j2, j3, j4⟩ := hj
  refine qp_callS_E hK hf (Nat.eq_of_beq_eq_true hmi) j1 (by unfold qp_sta; rw [j4]; rfl) (by rw [j2, ← hal, qp_len_eq]) hM hst hcat ⟨hd, by show 58 - 58 + 0 ≤ 0; omega, by show 4071 - 4071 + 0 ≤ 0; omega⟩ (Or.inl rfl) (fun r M' h1 _ _ => ?_)
  obtain ⟨I', J', rfl, h2⟩ := h1
  exact k r I' J' h2
/-- a loop that counts up to N, from behind -/
theorem qp_loopN {P : Nat → Prop} (N : Nat) (hx : P N) (hs : ∀ j, j < N → P (j + 1) → P j) : ∀ j, j ≤ N → P j := by
  intro j hj
  induction h : N - j generalizing j with
  | zero =>
    have : j = N := by omega
    subst this
    exact hx
  | succ n ih => exact hs j (by omega) (ih (j + 1) (by omega) (by omega))
end QPM
theorem qp_in_of {r : Int32} {n : Nat} (hn : n < 2 ^ 31) (h1 : ¬ r < 0) (h2 : ¬ Int32.ofNat n ≤ r) : vp_in r n := by
  rw [vp_in_iff]
  rw [Int32.lt_iff_toInt_lt] at h1
  rw [Int32.le_iff_toInt_le] at h2
  have e : (Int32.ofNat n).toInt = (n : Int) := nI_toInt hn
  rw [e] at h2
  have e0 : (0 : Int32).toInt = 0 := rfl
  rw [e0] at h1
  omega
end
section
/-! THE SHELVES -/
def qp_b2 (P : Prop) [Decidable P] : Int32 := if P then 1 else 0
theorem qp_b2_0 {P : Prop} [Decidable P] : qp_b2 P = 0 ↔ ¬ P := by unfold qp_b2; by_cases h : P <;> simp [h]
theorem qp_b2_1 {P : Prop} [Decidable P] : ¬ qp_b2 P = 0 ↔ P := by unfold qp_b2; by_cases h : P <;> simp [h]
theorem qp_b2_nar {P : Prop} [Decidable P] : narrow .boolean (.int (qp_b2 P)) = .int (qp_b2 P) := by unfold qp_b2; by_cases h : P <;> simp [h] <;> rfl
theorem qp_b2_t {P : Prop} [Decidable P] (h : P) : (1 : Int32) = qp_b2 P := by unfold qp_b2; rw [if_pos h]
theorem qp_b2_f {P : Prop} [Decidable P] (h : ¬ P) : (0 : Int32) = qp_b2 P := by unfold qp_b2; rw [if_neg h]
theorem qp_b2_c {P R : Prop} [Decidable P] [Decidable R] (h : P ↔ R) : qp_b2 P = qp_b2 R := by unfold qp_b2; by_cases hp : P <;> simp [hp, ← h]
theorem qp_vin {i c : Int32} {n : Nat} (hc : c.toInt = (n : Int)) (h1 : 0 ≤ i) (h2 : i < c) : vp_in i n := by
  rw [vp_in_iff]
  rw [Int32.le_iff_toInt_le] at h1
  rw [Int32.lt_iff_toInt_lt, hc] at h2
  have e0 : (0 : Int32).toInt = 0 := rfl
  rw [e0] at h1
  exact ⟨h1, h2⟩
theorem qp_clt {i c : Int32} {n : Nat} (hc : c.toInt = (n : Int)) (h1 : 0 ≤ i) (h2 : i < c) : i.toNatClampNeg < n := by
  have h := vp_in_iff.mp (qp_vin hc h1 h2)
  show i.toInt.toNat < n
  omega
theorem qp_ret {r : Option Value} {v w : Int32} (h : v = w) (hr : r = some (.int w)) : some (Value.int v) = r := by rw [hr, h]
theorem qp_E_c {l : Launch} {G : qp_G} {d mi : Nat} {M0 : qp_M} {mc ms : Nat} {Q : Option Value → qp_M → Prop} {c c' : qp_C} (h : c = c') (k : qp_E l G d mi M0 mc ms Q c') : qp_E l G d mi M0 mc ms Q c := h ▸ k
theorem qn_nI {n : Nat} (h : n < 2 ^ 31) : Int32.toNatClampNeg (nI n) = n := nI_clamp h
/-- an int that isn't negative, as a number -/
theorem qn_of {x c : Int32} {n : Nat} (hc : c = nI n) (hn : n < 2 ^ 31) (h1 : 0 ≤ x) (h2 : x < c) : x = nI (Int32.toNatClampNeg x) ∧ Int32.toNatClampNeg x < n := by
  have h0 : ¬ x < 0 := Int32.not_lt.mpr h1
  obtain ⟨j, hj, rfl⟩ := nI_of h0
  rw [hc] at h2
  rw [qn_nI hj]
  exact ⟨rfl, (nI_ltI hj hn).mp h2⟩
theorem qn_ofle {x c : Int32} {n : Nat} (hc : c = nI n) (hn : n < 2 ^ 31) (h1 : 0 ≤ x) (h2 : x ≤ c) : x = nI (Int32.toNatClampNeg x) ∧ Int32.toNatClampNeg x ≤ n := by
  have h0 : ¬ x < 0 := Int32.not_lt.mpr h1
  obtain ⟨j, hj, rfl⟩ := nI_of h0
  rw [hc] at h2
  rw [qn_nI hj]
  exact ⟨rfl, (nI_leI hj hn).mp h2⟩
theorem qp_ix (m N : Nat) (M C : Int32) {r i : Int32} (hM : M = nI m) (hC : C = nI N) (hb : N * m < 2 ^ 31) (hm : m < 2 ^ 31) (hN : N < 2 ^ 31) (h1 : 0 ≤ r) (h2 : r < C) (h3 : 0 ≤ i) (h4 : i < M) : Int32.toNatClampNeg (r * M + i) = m * Int32.toNatClampNeg r + Int32.toNatClampNeg i ∧ 0 ≤ r * M + i ∧ r * M + i < nI (N * m) := by
  obtain ⟨e1, l1⟩ := qn_of hC hN h1 h2
  obtain ⟨e2, l2⟩ := qn_of hM hm h3 h4
  have hlt : Int32.toNatClampNeg r * m + Int32.toNatClampNeg i < N * m := by
    have h5 : (Int32.toNatClampNeg r + 1) * m ≤ N * m := Nat.mul_le_mul_right m l1
    rw [Nat.add_mul, Nat.one_mul] at h5
    omega
  have e3 : r * M + i = nI (Int32.toNatClampNeg r * m + Int32.toNatClampNeg i) := by
    rw [← nI_add, ← pk_mul, ← e1, ← hM, ← e2]
  rw [e3]
  refine ⟨?_, ?_, ?_⟩
  · rw [qn_nI (by omega), Nat.mul_comm]
  · exact nI_pos' (by omega)
  · exact (nI_ltI (by omega) hb).mpr hlt
/-- n places of cell p, from a on, all v -/
def qs_fill (I : Nat → Nat → Int32) (p a n : Nat) (v : Int32) : Nat → Nat → Int32 := fun k q => bif Nat.beq p k && (Nat.ble a q && Nat.blt q (a + n)) then v else I k q
theorem qs_fill_0 {I : Nat → Nat → Int32} {p a : Nat} {v : Int32} : qs_fill I p a 0 v = I := by
  funext k q
  unfold qs_fill
  have : (Nat.ble a q && Nat.blt q (a + 0)) = false := by
    cases h1 : Nat.ble a q with
    | false => rfl
    | true =>
      cases h2 : Nat.blt q (a + 0) with
      | false => rfl
      | true => have := Nat.le_of_ble_eq_true h1; have := qp_blt h2; omega
  rw [this, Bool.and_false]
  rfl
theorem qp_blt_t {a b : Nat} (h : a < b) : Nat.blt a b = true := Nat.ble_eq_true_of_le h
theorem qp_blt_f {a b : Nat} (h : ¬ a < b) : Nat.blt a b = false := Bool.eq_false_iff.mpr fun q => h (qp_blt q)
theorem qp_ble_f {a b : Nat} (h : ¬ a ≤ b) : Nat.ble a b = false := Bool.eq_false_iff.mpr fun q => h (Nat.le_of_ble_eq_true q)
theorem qp_beq_f {a b : Nat} (h : ¬ a = b) : Nat.beq a b = false := Bool.eq_false_iff.mpr fun q => h (Nat.eq_of_beq_eq_true q)
theorem qs_fill_s {I : Nat → Nat → Int32} {p a n : Nat} {v : Int32} {j : Nat} (hj : j = a + n) : qp_up (qs_fill I p a n v) p j v = qs_fill I p a (n + 1) v := by
  subst hj
  funext k q
  by_cases hk : p = k
  · subst hk
    by_cases hq : q = a + n
    · subst hq
      rw [qp_up_eq]
      unfold qs_fill
      rw [Nat.beq_refl, Nat.ble_eq_true_of_le (Nat.le_add_right a n), qp_blt_t (by omega)]
      rfl
    · rw [qp_up_nj hq]
      unfold qs_fill
      have : (Nat.blt q (a + n)) = (Nat.blt q (a + (n + 1))) := by
        by_cases h : q < a + n
        · rw [qp_blt_t h, qp_blt_t (by omega)]
        · rw [qp_blt_f h, qp_blt_f (by omega)]
      rw [this]
  · rw [qp_up_ne (fun h => hk h.symm)]
    unfold qs_fill
    rw [qp_beq_f hk]
    rfl
/-- what a shelf keeps: its constant, its sizes between -1 and that -/
def qs_ok (b sz num : Nat) (most : Int32) (I : Nat → Nat → Int32) : Prop := I b 0 = most ∧ ∀ k, k < num → -1 ≤ I sz k ∧ I sz k ≤ most

theorem qs_isNumber1 (l : Launch) (G : qp_G) (r : Int32) (I : Nat → Nat → Int32) (J : Nat → Nat → Int64)  {d : Nat} (hd : 1 ≤ d) : qp_Met l G d 13 [.ref 1, .int r] (qp_mk I J) 0 0 (qp_R8 (some (.int (qp_b2 (0 ≤ r ∧ r < 6)))) I J) := by
  have hd1 : Nat.ble 1 d = true := Nat.ble_eq_true_of_le (Nat.le_trans (by decide) hd)
  refine qp_Met_of (by decide) (by rw [qp_r13.2]; rfl) [some (.ref 1), some (.int r)] (by rw [qp_r13.2]; rfl) ?_
  refine qp_run_E qp_ok13 1 (c' := (1, [some (.ref 1), some (.int r)], [.int r], qp_mk I J)) (by with_unfolding_all rfl) hd1 trivial ?_
  refine qp_br_E qp_ok13 (f := r < 0) (ct := (17, [some (.ref 1), some (.int r)], [], qp_mk I J)) (cf := (4, [some (.ref 1), some (.int r)], [], qp_mk I J)) (by with_unfolding_all rfl) (fun h1 => ?_) (fun h1 => ?_)
  · refine qp_run_E qp_ok13 1 (c' := (18, [some (.ref 1), some (.int r)], [.int 0], qp_mk I J)) (by with_unfolding_all rfl) hd1 trivial ?_
    exact qp_retZ_E qp_ok13 rfl qp_r13.1 (by first | rfl | exact qp_b2_nar) ⟨rfl, rfl⟩ ⟨congrArg (fun z => some (Value.int z)) (by first | rfl | exact qp_b2_t (by grind) | exact qp_b2_f (by grind) | exact qp_b2_c (by grind)), rfl⟩
  · refine qp_run_E qp_ok13 4 (c' := (10, [some (.ref 1), some (.int r)], [.int 6, .int r], qp_mk I J)) (by with_unfolding_all rfl) hd1 trivial ?_
    refine qp_br_E qp_ok13 (f := 6 ≤ r) (ct := (17, [some (.ref 1), some (.int r)], [], qp_mk I J)) (cf := (13, [some (.ref 1), some (.int r)], [], qp_mk I J)) (by with_unfolding_all rfl) (fun h2 => ?_) (fun h2 => ?_)
    · refine qp_run_E qp_ok13 1 (c' := (18, [some (.ref 1), some (.int r)], [.int 0], qp_mk I J)) (by with_unfolding_all rfl) hd1 trivial ?_
      exact qp_retZ_E qp_ok13 rfl qp_r13.1 (by first | rfl | exact qp_b2_nar) ⟨rfl, rfl⟩ ⟨congrArg (fun z => some (Value.int z)) (by first | rfl | exact qp_b2_t (by grind) | exact qp_b2_f (by grind) | exact qp_b2_c (by grind)), rfl⟩
    · refine qp_run_E qp_ok13 2 (c' := (18, [some (.ref 1), some (.int r)], [.int 1], qp_mk I J)) (by with_unfolding_all rfl) hd1 trivial ?_
      exact qp_retZ_E qp_ok13 rfl qp_r13.1 (by first | rfl | exact qp_b2_nar) ⟨rfl, rfl⟩ ⟨congrArg (fun z => some (Value.int z)) (by first | rfl | exact qp_b2_t (by grind) | exact qp_b2_f (by grind) | exact qp_b2_c (by grind)), rfl⟩

theorem qs_sizeOf1 (l : Launch) (G : qp_G) (r : Int32) (I : Nat → Nat → Int32) (J : Nat → Nat → Int64)  {d : Nat} (hd : 2 ≤ d) : qp_Met l G d 20 [.ref 1, .int r] (qp_mk I J) 0 0 (qp_R8 (some (.int (if (0 ≤ r ∧ r < 6) then (I 2 (Int32.toNatClampNeg r)) else -1))) I J) := by
  have hd1 : Nat.ble 1 d = true := Nat.ble_eq_true_of_le (Nat.le_trans (by decide) hd)
  refine qp_Met_of (by decide) (by rw [qp_r20.2]; rfl) [some (.ref 1), some (.int r)] (by rw [qp_r20.2]; rfl) ?_
  refine qp_run_E qp_ok20 2 (c' := (2, [some (.ref 1), some (.int r)], [.int r, .ref 1], qp_mk I J)) (by with_unfolding_all rfl) hd1 trivial ?_
  refine qp_cV qp_ok20 (rest := []) (oj := 1) qp_f13 rfl rfl (qs_isNumber1 l G r I J  (Nat.le_refl 1)) rfl rfl rfl rfl (Nat.le_trans (by decide) hd) ?_
  refine qp_br_E qp_ok20 (f := (qp_b2 (0 ≤ r ∧ r < 6)) = 0) (ct := (17, [some (.ref 1), some (.int r)], [], qp_mk I J)) (cf := (8, [some (.ref 1), some (.int r)], [], qp_mk I J)) (by with_unfolding_all rfl) (fun h1 => ?_) (fun h1 => ?_)
  · have h1 := qp_b2_0.mp h1
    refine qp_run_E qp_ok20 1 (c' := (18, [some (.ref 1), some (.int r)], [.int (-1)], qp_mk I J)) (by with_unfolding_all rfl) hd1 trivial ?_
    exact qp_retI_E qp_ok20 rfl qp_r20.1 ⟨rfl, rfl⟩ ⟨congrArg (fun z => some (Value.int z)) (by first | rw [if_pos (by assumption)] | rw [if_neg (by assumption)]), rfl⟩
  · have h1 := qp_b2_1.mp h1
    refine qp_run_E qp_ok20 5 (f := vp_in r 6 ∧ True) (c' := (18, [some (.ref 1), some (.int r)], [.int (I 2 (Int32.toNatClampNeg r))], qp_mk I J)) (by with_unfolding_all rfl) hd1 ⟨(qp_vin (c := 6) (by decide) (by grind) (by grind)), trivial⟩ ?_
    exact qp_retI_E qp_ok20 rfl qp_r20.1 ⟨rfl, rfl⟩ ⟨congrArg (fun z => some (Value.int z)) (by first | rw [if_pos (by assumption)] | rw [if_neg (by assumption)]), rfl⟩

theorem qs_has1 (l : Launch) (G : qp_G) (r : Int32) (I : Nat → Nat → Int32) (J : Nat → Nat → Int64)  {d : Nat} (hd : 3 ≤ d) : qp_Met l G d 19 [.ref 1, .int r] (qp_mk I J) 0 0 (qp_R8 (some (.int (qp_b2 ((0 ≤ r ∧ r < 6) ∧ ¬ (I 2 (Int32.toNatClampNeg r)) = -1)))) I J) := by
  have hd1 : Nat.ble 1 d = true := Nat.ble_eq_true_of_le (Nat.le_trans (by decide) hd)
  refine qp_Met_of (by decide) (by rw [qp_r19.2]; rfl) [some (.ref 1), some (.int r)] (by rw [qp_r19.2]; rfl) ?_
  refine qp_run_E qp_ok19 2 (c' := (2, [some (.ref 1), some (.int r)], [.int r, .ref 1], qp_mk I J)) (by with_unfolding_all rfl) hd1 trivial ?_
  refine qp_cV qp_ok19 (rest := []) (oj := 1) qp_f20 rfl rfl (qs_sizeOf1 l G r I J  (Nat.le_refl 2)) rfl rfl rfl rfl (Nat.le_trans (by decide) hd) ?_
  refine qp_run_E qp_ok19 1 (c' := (6, [some (.ref 1), some (.int r)], [.int (-1), .int (if (0 ≤ r ∧ r < 6) then (I 2 (Int32.toNatClampNeg r)) else -1)], qp_mk I J)) (by with_unfolding_all rfl) hd1 trivial ?_
  refine qp_br_E qp_ok19 (f := (if (0 ≤ r ∧ r < 6) then (I 2 (Int32.toNatClampNeg r)) else -1) = (-1)) (ct := (13, [some (.ref 1), some (.int r)], [], qp_mk I J)) (cf := (9, [some (.ref 1), some (.int r)], [], qp_mk I J)) (by with_unfolding_all rfl) (fun h1 => ?_) (fun h1 => ?_)
  · refine qp_run_E qp_ok19 1 (c' := (14, [some (.ref 1), some (.int r)], [.int 0], qp_mk I J)) (by with_unfolding_all rfl) hd1 trivial ?_
    exact qp_retZ_E qp_ok19 rfl qp_r19.1 (by first | rfl | exact qp_b2_nar) ⟨rfl, rfl⟩ ⟨congrArg (fun z => some (Value.int z)) (by first | rfl | exact qp_b2_t (by grind) | exact qp_b2_f (by grind) | exact qp_b2_c (by grind)), rfl⟩
  · refine qp_run_E qp_ok19 2 (c' := (14, [some (.ref 1), some (.int r)], [.int 1], qp_mk I J)) (by with_unfolding_all rfl) hd1 trivial ?_
    exact qp_retZ_E qp_ok19 rfl qp_r19.1 (by first | rfl | exact qp_b2_nar) ⟨rfl, rfl⟩ ⟨congrArg (fun z => some (Value.int z)) (by first | rfl | exact qp_b2_t (by grind) | exact qp_b2_f (by grind) | exact qp_b2_c (by grind)), rfl⟩

theorem qs_hasPlace1 (l : Launch) (G : qp_G) (r : Int32) (i : Int32) (I : Nat → Nat → Int32) (J : Nat → Nat → Int64)  {d : Nat} (hd : 2 ≤ d) : qp_Met l G d 21 [.ref 1, .int r, .int i] (qp_mk I J) 0 0 (qp_R8 (some (.int (qp_b2 ((0 ≤ r ∧ r < 6) ∧ 0 ≤ i ∧ i < (I 2 (Int32.toNatClampNeg r)))))) I J) := by
  have hd1 : Nat.ble 1 d = true := Nat.ble_eq_true_of_le (Nat.le_trans (by decide) hd)
  refine qp_Met_of (by decide) (by rw [qp_r21.2]; rfl) [some (.ref 1), some (.int r), some (.int i)] (by rw [qp_r21.2]; rfl) ?_
  refine qp_run_E qp_ok21 2 (c' := (2, [some (.ref 1), some (.int r), some (.int i)], [.int r, .ref 1], qp_mk I J)) (by with_unfolding_all rfl) hd1 trivial ?_
  refine qp_cV qp_ok21 (rest := []) (oj := 1) qp_f13 rfl rfl (qs_isNumber1 l G r I J  (Nat.le_refl 1)) rfl rfl rfl rfl (Nat.le_trans (by decide) hd) ?_
  refine qp_br_E qp_ok21 (f := (qp_b2 (0 ≤ r ∧ r < 6)) = 0) (ct := (26, [some (.ref 1), some (.int r), some (.int i)], [], qp_mk I J)) (cf := (8, [some (.ref 1), some (.int r), some (.int i)], [], qp_mk I J)) (by with_unfolding_all rfl) (fun h1 => ?_) (fun h1 => ?_)
  · have h1 := qp_b2_0.mp h1
    refine qp_run_E qp_ok21 1 (c' := (27, [some (.ref 1), some (.int r), some (.int i)], [.int 0], qp_mk I J)) (by with_unfolding_all rfl) hd1 trivial ?_
    exact qp_retZ_E qp_ok21 rfl qp_r21.1 (by first | rfl | exact qp_b2_nar) ⟨rfl, rfl⟩ ⟨congrArg (fun z => some (Value.int z)) (by first | rfl | exact qp_b2_t (by grind) | exact qp_b2_f (by grind) | exact qp_b2_c (by grind)), rfl⟩
  · have h1 := qp_b2_1.mp h1
    refine qp_run_E qp_ok21 1 (c' := (9, [some (.ref 1), some (.int r), some (.int i)], [.int i], qp_mk I J)) (by with_unfolding_all rfl) hd1 trivial ?_
    refine qp_br_E qp_ok21 (f := i < 0) (ct := (26, [some (.ref 1), some (.int r), some (.int i)], [], qp_mk I J)) (cf := (12, [some (.ref 1), some (.int r), some (.int i)], [], qp_mk I J)) (by with_unfolding_all rfl) (fun h2 => ?_) (fun h2 => ?_)
    · refine qp_run_E qp_ok21 1 (c' := (27, [some (.ref 1), some (.int r), some (.int i)], [.int 0], qp_mk I J)) (by with_unfolding_all rfl) hd1 trivial ?_
      exact qp_retZ_E qp_ok21 rfl qp_r21.1 (by first | rfl | exact qp_b2_nar) ⟨rfl, rfl⟩ ⟨congrArg (fun z => some (Value.int z)) (by first | rfl | exact qp_b2_t (by grind) | exact qp_b2_f (by grind) | exact qp_b2_c (by grind)), rfl⟩
    · refine qp_run_E qp_ok21 5 (f := vp_in r 6 ∧ True) (c' := (19, [some (.ref 1), some (.int r), some (.int i)], [.int (I 2 (Int32.toNatClampNeg r)), .int i], qp_mk I J)) (by with_unfolding_all rfl) hd1 ⟨(qp_vin (c := 6) (by decide) (by grind) (by grind)), trivial⟩ ?_
      refine qp_br_E qp_ok21 (f := (I 2 (Int32.toNatClampNeg r)) ≤ i) (ct := (26, [some (.ref 1), some (.int r), some (.int i)], [], qp_mk I J)) (cf := (22, [some (.ref 1), some (.int r), some (.int i)], [], qp_mk I J)) (by with_unfolding_all rfl) (fun h3 => ?_) (fun h3 => ?_)
      · refine qp_run_E qp_ok21 1 (c' := (27, [some (.ref 1), some (.int r), some (.int i)], [.int 0], qp_mk I J)) (by with_unfolding_all rfl) hd1 trivial ?_
        exact qp_retZ_E qp_ok21 rfl qp_r21.1 (by first | rfl | exact qp_b2_nar) ⟨rfl, rfl⟩ ⟨congrArg (fun z => some (Value.int z)) (by first | rfl | exact qp_b2_t (by grind) | exact qp_b2_f (by grind) | exact qp_b2_c (by grind)), rfl⟩
      · refine qp_run_E qp_ok21 2 (c' := (27, [some (.ref 1), some (.int r), some (.int i)], [.int 1], qp_mk I J)) (by with_unfolding_all rfl) hd1 trivial ?_
        exact qp_retZ_E qp_ok21 rfl qp_r21.1 (by first | rfl | exact qp_b2_nar) ⟨rfl, rfl⟩ ⟨congrArg (fun z => some (Value.int z)) (by first | rfl | exact qp_b2_t (by grind) | exact qp_b2_f (by grind) | exact qp_b2_c (by grind)), rfl⟩

theorem qs_hasSpan1 (l : Launch) (G : qp_G) (r : Int32) (i : Int32) (n : Int32) (I : Nat → Nat → Int32) (J : Nat → Nat → Int64)  {d : Nat} (hd : 4 ≤ d) : qp_Met l G d 29 [.ref 1, .int r, .int i, .int n] (qp_mk I J) 0 0 (qp_R8 (some (.int (qp_b2 (((0 ≤ r ∧ r < 6) ∧ ¬ (I 2 (Int32.toNatClampNeg r)) = -1) ∧ 0 ≤ n ∧ 0 ≤ i ∧ i ≤ (I 2 (Int32.toNatClampNeg r)) - n)))) I J) := by
  have hd1 : Nat.ble 1 d = true := Nat.ble_eq_true_of_le (Nat.le_trans (by decide) hd)
  refine qp_Met_of (by decide) (by rw [qp_r29.2]; rfl) [some (.ref 1), some (.int r), some (.int i), some (.int n)] (by rw [qp_r29.2]; rfl) ?_
  refine qp_run_E qp_ok29 2 (c' := (2, [some (.ref 1), some (.int r), some (.int i), some (.int n)], [.int r, .ref 1], qp_mk I J)) (by with_unfolding_all rfl) hd1 trivial ?_
  refine qp_cV qp_ok29 (rest := []) (oj := 1) qp_f19 rfl rfl (qs_has1 l G r I J  (Nat.le_refl 3)) rfl rfl rfl rfl (Nat.le_trans (by decide) hd) ?_
  refine qp_br_E qp_ok29 (f := (qp_b2 ((0 ≤ r ∧ r < 6) ∧ ¬ (I 2 (Int32.toNatClampNeg r)) = -1)) = 0) (ct := (31, [some (.ref 1), some (.int r), some (.int i), some (.int n)], [], qp_mk I J)) (cf := (8, [some (.ref 1), some (.int r), some (.int i), some (.int n)], [], qp_mk I J)) (by with_unfolding_all rfl) (fun h1 => ?_) (fun h1 => ?_)
  · have h1 := qp_b2_0.mp h1
    refine qp_run_E qp_ok29 1 (c' := (32, [some (.ref 1), some (.int r), some (.int i), some (.int n)], [.int 0], qp_mk I J)) (by with_unfolding_all rfl) hd1 trivial ?_
    exact qp_retZ_E qp_ok29 rfl qp_r29.1 (by first | rfl | exact qp_b2_nar) ⟨rfl, rfl⟩ ⟨congrArg (fun z => some (Value.int z)) (by first | rfl | exact qp_b2_t (by grind) | exact qp_b2_f (by grind) | exact qp_b2_c (by grind)), rfl⟩
  · have h1 := qp_b2_1.mp h1
    refine qp_run_E qp_ok29 1 (c' := (9, [some (.ref 1), some (.int r), some (.int i), some (.int n)], [.int n], qp_mk I J)) (by with_unfolding_all rfl) hd1 trivial ?_
    refine qp_br_E qp_ok29 (f := n < 0) (ct := (31, [some (.ref 1), some (.int r), some (.int i), some (.int n)], [], qp_mk I J)) (cf := (12, [some (.ref 1), some (.int r), some (.int i), some (.int n)], [], qp_mk I J)) (by with_unfolding_all rfl) (fun h2 => ?_) (fun h2 => ?_)
    · refine qp_run_E qp_ok29 1 (c' := (32, [some (.ref 1), some (.int r), some (.int i), some (.int n)], [.int 0], qp_mk I J)) (by with_unfolding_all rfl) hd1 trivial ?_
      exact qp_retZ_E qp_ok29 rfl qp_r29.1 (by first | rfl | exact qp_b2_nar) ⟨rfl, rfl⟩ ⟨congrArg (fun z => some (Value.int z)) (by first | rfl | exact qp_b2_t (by grind) | exact qp_b2_f (by grind) | exact qp_b2_c (by grind)), rfl⟩
    · refine qp_run_E qp_ok29 1 (c' := (13, [some (.ref 1), some (.int r), some (.int i), some (.int n)], [.int i], qp_mk I J)) (by with_unfolding_all rfl) hd1 trivial ?_
      refine qp_br_E qp_ok29 (f := i < 0) (ct := (31, [some (.ref 1), some (.int r), some (.int i), some (.int n)], [], qp_mk I J)) (cf := (16, [some (.ref 1), some (.int r), some (.int i), some (.int n)], [], qp_mk I J)) (by with_unfolding_all rfl) (fun h3 => ?_) (fun h3 => ?_)
      · refine qp_run_E qp_ok29 1 (c' := (32, [some (.ref 1), some (.int r), some (.int i), some (.int n)], [.int 0], qp_mk I J)) (by with_unfolding_all rfl) hd1 trivial ?_
        exact qp_retZ_E qp_ok29 rfl qp_r29.1 (by first | rfl | exact qp_b2_nar) ⟨rfl, rfl⟩ ⟨congrArg (fun z => some (Value.int z)) (by first | rfl | exact qp_b2_t (by grind) | exact qp_b2_f (by grind) | exact qp_b2_c (by grind)), rfl⟩
      · refine qp_run_E qp_ok29 3 (c' := (19, [some (.ref 1), some (.int r), some (.int i), some (.int n)], [.int r, .ref 1, .int i], qp_mk I J)) (by with_unfolding_all rfl) hd1 trivial ?_
        refine qp_cV qp_ok29 (rest := [.int i]) (oj := 1) qp_f20 rfl rfl (qs_sizeOf1 l G r I J  (Nat.le_refl 2)) rfl rfl rfl rfl (Nat.le_trans (by decide) hd) ?_
        refine qp_run_E qp_ok29 2 (c' := (24, [some (.ref 1), some (.int r), some (.int i), some (.int n)], [.int ((if (0 ≤ r ∧ r < 6) then (I 2 (Int32.toNatClampNeg r)) else -1) - n), .int i], qp_mk I J)) (by with_unfolding_all rfl) hd1 trivial ?_
        refine qp_br_E qp_ok29 (f := ((if (0 ≤ r ∧ r < 6) then (I 2 (Int32.toNatClampNeg r)) else -1) - n) < i) (ct := (31, [some (.ref 1), some (.int r), some (.int i), some (.int n)], [], qp_mk I J)) (cf := (27, [some (.ref 1), some (.int r), some (.int i), some (.int n)], [], qp_mk I J)) (by with_unfolding_all rfl) (fun h4 => ?_) (fun h4 => ?_)
        · refine qp_run_E qp_ok29 1 (c' := (32, [some (.ref 1), some (.int r), some (.int i), some (.int n)], [.int 0], qp_mk I J)) (by with_unfolding_all rfl) hd1 trivial ?_
          exact qp_retZ_E qp_ok29 rfl qp_r29.1 (by first | rfl | exact qp_b2_nar) ⟨rfl, rfl⟩ ⟨congrArg (fun z => some (Value.int z)) (by first | rfl | exact qp_b2_t (by grind) | exact qp_b2_f (by grind) | exact qp_b2_c (by grind)), rfl⟩
        · refine qp_run_E qp_ok29 2 (c' := (32, [some (.ref 1), some (.int r), some (.int i), some (.int n)], [.int 1], qp_mk I J)) (by with_unfolding_all rfl) hd1 trivial ?_
          exact qp_retZ_E qp_ok29 rfl qp_r29.1 (by first | rfl | exact qp_b2_nar) ⟨rfl, rfl⟩ ⟨congrArg (fun z => some (Value.int z)) (by first | rfl | exact qp_b2_t (by grind) | exact qp_b2_f (by grind) | exact qp_b2_c (by grind)), rfl⟩

theorem qs_get1 (l : Launch) (G : qp_G) (r : Int32) (i : Int32) (I : Nat → Nat → Int32) (J : Nat → Nat → Int64) (hk : qs_ok 1 2 6 40 I) {d : Nat} (hd : 3 ≤ d) : qp_Met l G d 22 [.ref 1, .int r, .int i] (qp_mk I J) 0 0 (qp_R8 (some (.int (if ((0 ≤ r ∧ r < 6) ∧ 0 ≤ i ∧ i < (I 2 (Int32.toNatClampNeg r))) then (I 3 (40 * (Int32.toNatClampNeg r) + (Int32.toNatClampNeg i))) else 0))) I J) := by
  have hd1 : Nat.ble 1 d = true := Nat.ble_eq_true_of_le (Nat.le_trans (by decide) hd)
  refine qp_Met_of (by decide) (by rw [qp_r22.2]; rfl) [some (.ref 1), some (.int r), some (.int i)] (by rw [qp_r22.2]; rfl) ?_
  refine qp_run_E qp_ok22 3 (c' := (3, [some (.ref 1), some (.int r), some (.int i)], [.int i, .int r, .ref 1], qp_mk I J)) (by with_unfolding_all rfl) hd1 trivial ?_
  refine qp_cV qp_ok22 (rest := []) (oj := 1) qp_f21 rfl rfl (qs_hasPlace1 l G r i I J  (Nat.le_refl 2)) rfl rfl rfl rfl (Nat.le_trans (by decide) hd) ?_
  refine qp_br_E qp_ok22 (f := (qp_b2 ((0 ≤ r ∧ r < 6) ∧ 0 ≤ i ∧ i < (I 2 (Int32.toNatClampNeg r)))) = 0) (ct := (25, [some (.ref 1), some (.int r), some (.int i)], [], qp_mk I J)) (cf := (9, [some (.ref 1), some (.int r), some (.int i)], [], qp_mk I J)) (by with_unfolding_all rfl) (fun h1 => ?_) (fun h1 => ?_)
  · have h1 := qp_b2_0.mp h1
    refine qp_run_E qp_ok22 1 (c' := (26, [some (.ref 1), some (.int r), some (.int i)], [.int 0], qp_mk I J)) (by with_unfolding_all rfl) hd1 trivial ?_
    exact qp_retI_E qp_ok22 rfl qp_r22.1 ⟨rfl, rfl⟩ ⟨congrArg (fun z => some (Value.int z)) (by first | (rw [if_neg (by assumption)]; done) | (rw [if_pos (by assumption)]; have hk1 := hk.1; have hk2 := hk.2 _ (qp_clt (c := 6) (n := 6) (by decide) h1.1.1 h1.1.2); have hx := qp_ix 40 6 40 6 rfl rfl (by decide) (by decide) (by decide) h1.1.1 h1.1.2 h1.2.1 (by grind); rw [hk1]; exact congrArg (I 3) hx.1)), rfl⟩
  · have h1 := qp_b2_1.mp h1
    refine qp_run_E qp_ok22 10 (f := vp_in ((r * (I 1 0)) + i) 240 ∧ True) (c' := (26, [some (.ref 1), some (.int r), some (.int i)], [.int (I 3 (Int32.toNatClampNeg ((r * (I 1 0)) + i)))], qp_mk I J)) (by with_unfolding_all rfl) hd1 ⟨(qp_vin (c := 240) (by decide) (by have hk1 := hk.1; have hk2 := hk.2 _ (qp_clt (c := 6) (n := 6) (by decide) h1.1.1 h1.1.2); have hx := qp_ix 40 6 40 6 rfl rfl (by decide) (by decide) (by decide) h1.1.1 h1.1.2 h1.2.1 (by grind); rw [hk1]; first | exact hx.2.1 | exact hx.2.2) (by have hk1 := hk.1; have hk2 := hk.2 _ (qp_clt (c := 6) (n := 6) (by decide) h1.1.1 h1.1.2); have hx := qp_ix 40 6 40 6 rfl rfl (by decide) (by decide) (by decide) h1.1.1 h1.1.2 h1.2.1 (by grind); rw [hk1]; first | exact hx.2.1 | exact hx.2.2)), trivial⟩ ?_
    exact qp_retI_E qp_ok22 rfl qp_r22.1 ⟨rfl, rfl⟩ ⟨congrArg (fun z => some (Value.int z)) (by first | (rw [if_neg (by assumption)]; done) | (rw [if_pos (by assumption)]; have hk1 := hk.1; have hk2 := hk.2 _ (qp_clt (c := 6) (n := 6) (by decide) h1.1.1 h1.1.2); have hx := qp_ix 40 6 40 6 rfl rfl (by decide) (by decide) (by decide) h1.1.1 h1.1.2 h1.2.1 (by grind); rw [hk1]; exact congrArg (I 3) hx.1)), rfl⟩

theorem qs_set1 (l : Launch) (G : qp_G) (r : Int32) (i : Int32) (v : Int32) (I : Nat → Nat → Int32) (J : Nat → Nat → Int64) (hk : qs_ok 1 2 6 40 I) (hp : ((0 ≤ r ∧ r < 6) ∧ 0 ≤ i ∧ i < (I 2 (Int32.toNatClampNeg r)))) {d : Nat} (hd : 3 ≤ d) : qp_Met l G d 23 [.ref 1, .int r, .int i, .int v] (qp_mk I J) 0 0 (qp_R8 none (qp_up I 3 (40 * (Int32.toNatClampNeg r) + (Int32.toNatClampNeg i)) v) J) := by
  have hd1 : Nat.ble 1 d = true := Nat.ble_eq_true_of_le (Nat.le_trans (by decide) hd)
  refine qp_Met_of (by decide) (by rw [qp_r23.2]; rfl) [some (.ref 1), some (.int r), some (.int i), some (.int v)] (by rw [qp_r23.2]; rfl) ?_
  refine qp_run_E qp_ok23 3 (c' := (3, [some (.ref 1), some (.int r), some (.int i), some (.int v)], [.int i, .int r, .ref 1], qp_mk I J)) (by with_unfolding_all rfl) hd1 trivial ?_
  refine qp_cV qp_ok23 (rest := []) (oj := 1) qp_f21 rfl rfl (qs_hasPlace1 l G r i I J  (Nat.le_refl 2)) rfl rfl rfl rfl (Nat.le_trans (by decide) hd) ?_
  refine qp_br_E qp_ok23 (f := (qp_b2 ((0 ≤ r ∧ r < 6) ∧ 0 ≤ i ∧ i < (I 2 (Int32.toNatClampNeg r)))) = 0) (ct := (23, [some (.ref 1), some (.int r), some (.int i), some (.int v)], [], qp_mk I J)) (cf := (9, [some (.ref 1), some (.int r), some (.int i), some (.int v)], [], qp_mk I J)) (by with_unfolding_all rfl) (fun h1 => ?_) (fun h1 => ?_)
  · exact absurd (h1) (qp_b2_1.mpr hp)
  · refine qp_run_E qp_ok23 10 (f := vp_in ((r * (I 1 0)) + i) 240 ∧ True) (c' := (23, [some (.ref 1), some (.int r), some (.int i), some (.int v)], [], qp_mk (qp_up I 3 (Int32.toNatClampNeg ((r * (I 1 0)) + i)) v) J)) (by with_unfolding_all rfl) hd1 ⟨(qp_vin (c := 240) (by decide) (by have hk1 := hk.1; have hk2 := hk.2 _ (qp_clt (c := 6) (n := 6) (by decide) hp.1.1 hp.1.2); have hx := qp_ix 40 6 40 6 rfl rfl (by decide) (by decide) (by decide) hp.1.1 hp.1.2 hp.2.1 (by grind); rw [hk1]; first | exact hx.2.1 | exact hx.2.2) (by have hk1 := hk.1; have hk2 := hk.2 _ (qp_clt (c := 6) (n := 6) (by decide) hp.1.1 hp.1.2); have hx := qp_ix 40 6 40 6 rfl rfl (by decide) (by decide) (by decide) hp.1.1 hp.1.2 hp.2.1 (by grind); rw [hk1]; first | exact hx.2.1 | exact hx.2.2)), trivial⟩ ?_
    exact qp_retV_E qp_ok23 rfl qp_r23.1 ⟨rfl, rfl⟩ ⟨rfl, congrArg (fun z => qp_mk z J) (by have hk1 := hk.1; have hk2 := hk.2 _ (qp_clt (c := 6) (n := 6) (by decide) hp.1.1 hp.1.2); have hx := qp_ix 40 6 40 6 rfl rfl (by decide) (by decide) (by decide) hp.1.1 hp.1.2 hp.2.1 (by grind); rw [hk1]; exact congrArg (fun z => qp_up I 3 z v) hx.1)⟩

theorem qs_drop1 (l : Launch) (G : qp_G) (r : Int32) (I : Nat → Nat → Int32) (J : Nat → Nat → Int64) (hp : (0 ≤ r ∧ r < 6)) {d : Nat} (hd : 2 ≤ d) : qp_Met l G d 27 [.ref 1, .int r] (qp_mk I J) 0 0 (qp_R8 none (qp_up I 2 (Int32.toNatClampNeg r) (-1)) J) := by
  have hd1 : Nat.ble 1 d = true := Nat.ble_eq_true_of_le (Nat.le_trans (by decide) hd)
  refine qp_Met_of (by decide) (by rw [qp_r27.2]; rfl) [some (.ref 1), some (.int r)] (by rw [qp_r27.2]; rfl) ?_
  refine qp_run_E qp_ok27 2 (c' := (2, [some (.ref 1), some (.int r)], [.int r, .ref 1], qp_mk I J)) (by with_unfolding_all rfl) hd1 trivial ?_
  refine qp_cV qp_ok27 (rest := []) (oj := 1) qp_f13 rfl rfl (qs_isNumber1 l G r I J  (Nat.le_refl 1)) rfl rfl rfl rfl (Nat.le_trans (by decide) hd) ?_
  refine qp_br_E qp_ok27 (f := (qp_b2 (0 ≤ r ∧ r < 6)) = 0) (ct := (15, [some (.ref 1), some (.int r)], [], qp_mk I J)) (cf := (8, [some (.ref 1), some (.int r)], [], qp_mk I J)) (by with_unfolding_all rfl) (fun h1 => ?_) (fun h1 => ?_)
  · exact absurd (h1) (qp_b2_1.mpr hp)
  · refine qp_run_E qp_ok27 5 (f := vp_in r 6 ∧ True) (c' := (15, [some (.ref 1), some (.int r)], [], qp_mk (qp_up I 2 (Int32.toNatClampNeg r) (-1)) J)) (by with_unfolding_all rfl) hd1 ⟨(qp_vin (c := 6) (by decide) (by grind) (by grind)), trivial⟩ ?_
    exact qp_retV_E qp_ok27 rfl qp_r27.1 ⟨rfl, rfl⟩ ⟨rfl, rfl⟩

theorem qs_fresh1 (l : Launch) (G : qp_G) (r : Int32) (n : Int32) (v : Int32) (I : Nat → Nat → Int32) (J : Nat → Nat → Int64) (hk : qs_ok 1 2 6 40 I) (hp : (0 ≤ r ∧ r < 6) ∧ 0 ≤ n ∧ n ≤ 40) {d : Nat} (hd : 3 ≤ d) : qp_Met l G d 15 [.ref 1, .int r, .int n, .int v] (qp_mk I J) 0 0 (qp_R8 none (qs_fill (qp_up I 2 (Int32.toNatClampNeg r) n) 3 (40 * (Int32.toNatClampNeg r)) (Int32.toNatClampNeg n) v) J) := by
  have hd1 : Nat.ble 1 d = true := Nat.ble_eq_true_of_le (Nat.le_trans (by decide) hd)
  refine qp_Met_of (by decide) (by rw [qp_r15.2]; rfl) [some (.ref 1), some (.int r), some (.int n), some (.int v), none] (by rw [qp_r15.2]; rfl) ?_
  refine qp_run_E qp_ok15 2 (c' := (2, [some (.ref 1), some (.int r), some (.int n), some (.int v), none], [.int r, .ref 1], qp_mk I J)) (by with_unfolding_all rfl) hd1 trivial ?_
  refine qp_cV qp_ok15 (rest := []) (oj := 1) qp_f13 rfl rfl (qs_isNumber1 l G r I J  (Nat.le_refl 1)) rfl rfl rfl rfl (Nat.le_trans (by decide) hd) ?_
  refine qp_br_E qp_ok15 (f := (qp_b2 (0 ≤ r ∧ r < 6)) = 0) (ct := (57, [some (.ref 1), some (.int r), some (.int n), some (.int v), none], [], qp_mk I J)) (cf := (8, [some (.ref 1), some (.int r), some (.int n), some (.int v), none], [], qp_mk I J)) (by with_unfolding_all rfl) (fun h1 => ?_) (fun h1 => ?_)
  · exact absurd (h1) (qp_b2_1.mpr hp.1)
  · refine qp_run_E qp_ok15 1 (c' := (9, [some (.ref 1), some (.int r), some (.int n), some (.int v), none], [.int n], qp_mk I J)) (by with_unfolding_all rfl) hd1 trivial ?_
    refine qp_br_E qp_ok15 (f := n < 0) (ct := (57, [some (.ref 1), some (.int r), some (.int n), some (.int v), none], [], qp_mk I J)) (cf := (12, [some (.ref 1), some (.int r), some (.int n), some (.int v), none], [], qp_mk I J)) (by with_unfolding_all rfl) (fun h2 => ?_) (fun h2 => ?_)
    · exfalso; grind
    · refine qp_run_E qp_ok15 3 (c' := (17, [some (.ref 1), some (.int r), some (.int n), some (.int v), none], [.int (I 1 0), .int n], qp_mk I J)) (by with_unfolding_all rfl) hd1 trivial ?_
      refine qp_br_E qp_ok15 (f := (I 1 0) < n) (ct := (57, [some (.ref 1), some (.int r), some (.int n), some (.int v), none], [], qp_mk I J)) (cf := (20, [some (.ref 1), some (.int r), some (.int n), some (.int v), none], [], qp_mk I J)) (by with_unfolding_all rfl) (fun h3 => ?_) (fun h3 => ?_)
      · exfalso; have := hk.1; grind
      · refine qp_run_E qp_ok15 7 (f := vp_in r 6 ∧ True) (c' := (30, [some (.ref 1), some (.int r), some (.int n), some (.int v), some (.int 0)], [], qp_mk (qp_up I 2 (Int32.toNatClampNeg r) n) J)) (by with_unfolding_all rfl) hd1 ⟨(qp_vin (c := 6) (by decide) (by grind) (by grind)), trivial⟩ ?_
        obtain ⟨en, hn⟩ := qn_ofle (c := 40) (n := 40) rfl (by decide) hp.2.1 hp.2.2
        rw [show (30, [some (.ref 1), some (.int r), some (.int n), some (.int v), some (.int 0)], [], qp_mk (qp_up I 2 (Int32.toNatClampNeg r) n) J) = ((30, [some (.ref 1), some (.int r), some (.int n), some (.int v), some (.int (nI 0))], [], qp_mk (qs_fill (qp_up I 2 (Int32.toNatClampNeg r) n) 3 (40 * (Int32.toNatClampNeg r)) 0 v) J) : qp_C) from by rw [qs_fill_0]; rfl]
        refine qp_loopN (P := fun j30 => qp_E l G d 15 (qp_mk I J) 0 0 (qp_R8 none (qs_fill (qp_up I 2 (Int32.toNatClampNeg r) n) 3 (40 * (Int32.toNatClampNeg r)) (Int32.toNatClampNeg n) v) J) (30, [some (.ref 1), some (.int r), some (.int n), some (.int v), some (.int (nI j30))], [], qp_mk (qs_fill (qp_up I 2 (Int32.toNatClampNeg r) n) 3 (40 * (Int32.toNatClampNeg r)) j30 v) J)) ((Int32.toNatClampNeg n)) ?_ (fun j30 h30 ih30 => ?_) 0 (Nat.zero_le _)
        · refine qp_run_E qp_ok15 2 (c' := (33, [some (.ref 1), some (.int r), some (.int n), some (.int v), some (.int (nI (Int32.toNatClampNeg n)))], [.int n, .int (nI (Int32.toNatClampNeg n))], qp_mk (qs_fill (qp_up I 2 (Int32.toNatClampNeg r) n) 3 (40 * (Int32.toNatClampNeg r)) (Int32.toNatClampNeg n) v) J)) (by with_unfolding_all rfl) hd1 trivial ?_
          refine qp_br_E qp_ok15 (f := n ≤ (nI (Int32.toNatClampNeg n))) (ct := (57, [some (.ref 1), some (.int r), some (.int n), some (.int v), some (.int (nI (Int32.toNatClampNeg n)))], [], qp_mk (qs_fill (qp_up I 2 (Int32.toNatClampNeg r) n) 3 (40 * (Int32.toNatClampNeg r)) (Int32.toNatClampNeg n) v) J)) (cf := (36, [some (.ref 1), some (.int r), some (.int n), some (.int v), some (.int (nI (Int32.toNatClampNeg n)))], [], qp_mk (qs_fill (qp_up I 2 (Int32.toNatClampNeg r) n) 3 (40 * (Int32.toNatClampNeg r)) (Int32.toNatClampNeg n) v) J)) (by with_unfolding_all rfl) (fun h4 => ?_) (fun h4 => ?_)
          · exact qp_retV_E qp_ok15 rfl qp_r15.1 ⟨rfl, rfl⟩ ⟨rfl, rfl⟩
          · exact absurd (by rw [← en]; exact Int32.le_refl n) h4
        · refine qp_run_E qp_ok15 2 (c' := (33, [some (.ref 1), some (.int r), some (.int n), some (.int v), some (.int (nI j30))], [.int n, .int (nI j30)], qp_mk (qs_fill (qp_up I 2 (Int32.toNatClampNeg r) n) 3 (40 * (Int32.toNatClampNeg r)) j30 v) J)) (by with_unfolding_all rfl) hd1 trivial ?_
          refine qp_br_E qp_ok15 (f := n ≤ (nI j30)) (ct := (57, [some (.ref 1), some (.int r), some (.int n), some (.int v), some (.int (nI j30))], [], qp_mk (qs_fill (qp_up I 2 (Int32.toNatClampNeg r) n) 3 (40 * (Int32.toNatClampNeg r)) j30 v) J)) (cf := (36, [some (.ref 1), some (.int r), some (.int n), some (.int v), some (.int (nI j30))], [], qp_mk (qs_fill (qp_up I 2 (Int32.toNatClampNeg r) n) 3 (40 * (Int32.toNatClampNeg r)) j30 v) J)) (by with_unfolding_all rfl) (fun h5 => ?_) (fun h5 => ?_)
          · exact absurd (show nI _ ≤ nI _ from en ▸ h5) (nI_ge h30 (by omega))
          · refine qp_run_E qp_ok15 12 (f := vp_in ((r * (I 1 0)) + (nI j30)) 240 ∧ True) (c' := (30, [some (.ref 1), some (.int r), some (.int n), some (.int v), some (.int ((nI j30) + 1))], [], qp_mk (qp_up (qs_fill (qp_up I 2 (Int32.toNatClampNeg r) n) 3 (40 * (Int32.toNatClampNeg r)) j30 v) 3 (Int32.toNatClampNeg ((r * (I 1 0)) + (nI j30))) v) J)) (by with_unfolding_all rfl) hd1 ⟨(qp_vin (c := 240) (by decide) (by have hx := qp_ix 40 6 40 6 (r := r) (i := nI j30) rfl rfl (by decide) (by decide) (by decide) hp.1.1 hp.1.2 (nI_pos' (by omega)) ((nI_ltI (by omega) (by decide)).mpr (show _ < 40 by omega)); rw [show I 1 0 = 40 from hk.1]; first | exact hx.2.1 | exact hx.2.2) (by have hx := qp_ix 40 6 40 6 (r := r) (i := nI j30) rfl rfl (by decide) (by decide) (by decide) hp.1.1 hp.1.2 (nI_pos' (by omega)) ((nI_ltI (by omega) (by decide)).mpr (show _ < 40 by omega)); rw [show I 1 0 = 40 from hk.1]; first | exact hx.2.1 | exact hx.2.2)), trivial⟩ ?_
            exact qp_E_c (by rw [nI_1, qs_fill_s (by rw [hk.1]; have hx := qp_ix 40 6 40 6 (r := r) (i := nI j30) rfl rfl (by decide) (by decide) (by decide) hp.1.1 hp.1.2 (nI_pos' (by omega)) ((nI_ltI (by omega) (by decide)).mpr (show _ < 40 by omega)); rw [show Int32.toNatClampNeg _ = _ from hx.1]; rw [show Int32.toNatClampNeg (nI j30) = _ from qn_nI (by omega)])]) ih30

theorem qs_isNumber4 (l : Launch) (G : qp_G) (r : Int32) (I : Nat → Nat → Int32) (J : Nat → Nat → Int64)  {d : Nat} (hd : 1 ≤ d) : qp_Met l G d 13 [.ref 4, .int r] (qp_mk I J) 0 0 (qp_R8 (some (.int (qp_b2 (0 ≤ r ∧ r < 4)))) I J) := by
  have hd1 : Nat.ble 1 d = true := Nat.ble_eq_true_of_le (Nat.le_trans (by decide) hd)
  refine qp_Met_of (by decide) (by rw [qp_r13.2]; rfl) [some (.ref 4), some (.int r)] (by rw [qp_r13.2]; rfl) ?_
  refine qp_run_E qp_ok13 1 (c' := (1, [some (.ref 4), some (.int r)], [.int r], qp_mk I J)) (by with_unfolding_all rfl) hd1 trivial ?_
  refine qp_br_E qp_ok13 (f := r < 0) (ct := (17, [some (.ref 4), some (.int r)], [], qp_mk I J)) (cf := (4, [some (.ref 4), some (.int r)], [], qp_mk I J)) (by with_unfolding_all rfl) (fun h1 => ?_) (fun h1 => ?_)
  · refine qp_run_E qp_ok13 1 (c' := (18, [some (.ref 4), some (.int r)], [.int 0], qp_mk I J)) (by with_unfolding_all rfl) hd1 trivial ?_
    exact qp_retZ_E qp_ok13 rfl qp_r13.1 (by first | rfl | exact qp_b2_nar) ⟨rfl, rfl⟩ ⟨congrArg (fun z => some (Value.int z)) (by first | rfl | exact qp_b2_t (by grind) | exact qp_b2_f (by grind) | exact qp_b2_c (by grind)), rfl⟩
  · refine qp_run_E qp_ok13 4 (c' := (10, [some (.ref 4), some (.int r)], [.int 4, .int r], qp_mk I J)) (by with_unfolding_all rfl) hd1 trivial ?_
    refine qp_br_E qp_ok13 (f := 4 ≤ r) (ct := (17, [some (.ref 4), some (.int r)], [], qp_mk I J)) (cf := (13, [some (.ref 4), some (.int r)], [], qp_mk I J)) (by with_unfolding_all rfl) (fun h2 => ?_) (fun h2 => ?_)
    · refine qp_run_E qp_ok13 1 (c' := (18, [some (.ref 4), some (.int r)], [.int 0], qp_mk I J)) (by with_unfolding_all rfl) hd1 trivial ?_
      exact qp_retZ_E qp_ok13 rfl qp_r13.1 (by first | rfl | exact qp_b2_nar) ⟨rfl, rfl⟩ ⟨congrArg (fun z => some (Value.int z)) (by first | rfl | exact qp_b2_t (by grind) | exact qp_b2_f (by grind) | exact qp_b2_c (by grind)), rfl⟩
    · refine qp_run_E qp_ok13 2 (c' := (18, [some (.ref 4), some (.int r)], [.int 1], qp_mk I J)) (by with_unfolding_all rfl) hd1 trivial ?_
      exact qp_retZ_E qp_ok13 rfl qp_r13.1 (by first | rfl | exact qp_b2_nar) ⟨rfl, rfl⟩ ⟨congrArg (fun z => some (Value.int z)) (by first | rfl | exact qp_b2_t (by grind) | exact qp_b2_f (by grind) | exact qp_b2_c (by grind)), rfl⟩

theorem qs_sizeOf4 (l : Launch) (G : qp_G) (r : Int32) (I : Nat → Nat → Int32) (J : Nat → Nat → Int64)  {d : Nat} (hd : 2 ≤ d) : qp_Met l G d 20 [.ref 4, .int r] (qp_mk I J) 0 0 (qp_R8 (some (.int (if (0 ≤ r ∧ r < 4) then (I 5 (Int32.toNatClampNeg r)) else -1))) I J) := by
  have hd1 : Nat.ble 1 d = true := Nat.ble_eq_true_of_le (Nat.le_trans (by decide) hd)
  refine qp_Met_of (by decide) (by rw [qp_r20.2]; rfl) [some (.ref 4), some (.int r)] (by rw [qp_r20.2]; rfl) ?_
  refine qp_run_E qp_ok20 2 (c' := (2, [some (.ref 4), some (.int r)], [.int r, .ref 4], qp_mk I J)) (by with_unfolding_all rfl) hd1 trivial ?_
  refine qp_cV qp_ok20 (rest := []) (oj := 1) qp_f13 rfl rfl (qs_isNumber4 l G r I J  (Nat.le_refl 1)) rfl rfl rfl rfl (Nat.le_trans (by decide) hd) ?_
  refine qp_br_E qp_ok20 (f := (qp_b2 (0 ≤ r ∧ r < 4)) = 0) (ct := (17, [some (.ref 4), some (.int r)], [], qp_mk I J)) (cf := (8, [some (.ref 4), some (.int r)], [], qp_mk I J)) (by with_unfolding_all rfl) (fun h1 => ?_) (fun h1 => ?_)
  · have h1 := qp_b2_0.mp h1
    refine qp_run_E qp_ok20 1 (c' := (18, [some (.ref 4), some (.int r)], [.int (-1)], qp_mk I J)) (by with_unfolding_all rfl) hd1 trivial ?_
    exact qp_retI_E qp_ok20 rfl qp_r20.1 ⟨rfl, rfl⟩ ⟨congrArg (fun z => some (Value.int z)) (by first | rw [if_pos (by assumption)] | rw [if_neg (by assumption)]), rfl⟩
  · have h1 := qp_b2_1.mp h1
    refine qp_run_E qp_ok20 5 (f := vp_in r 4 ∧ True) (c' := (18, [some (.ref 4), some (.int r)], [.int (I 5 (Int32.toNatClampNeg r))], qp_mk I J)) (by with_unfolding_all rfl) hd1 ⟨(qp_vin (c := 4) (by decide) (by grind) (by grind)), trivial⟩ ?_
    exact qp_retI_E qp_ok20 rfl qp_r20.1 ⟨rfl, rfl⟩ ⟨congrArg (fun z => some (Value.int z)) (by first | rw [if_pos (by assumption)] | rw [if_neg (by assumption)]), rfl⟩

theorem qs_has4 (l : Launch) (G : qp_G) (r : Int32) (I : Nat → Nat → Int32) (J : Nat → Nat → Int64)  {d : Nat} (hd : 3 ≤ d) : qp_Met l G d 19 [.ref 4, .int r] (qp_mk I J) 0 0 (qp_R8 (some (.int (qp_b2 ((0 ≤ r ∧ r < 4) ∧ ¬ (I 5 (Int32.toNatClampNeg r)) = -1)))) I J) := by
  have hd1 : Nat.ble 1 d = true := Nat.ble_eq_true_of_le (Nat.le_trans (by decide) hd)
  refine qp_Met_of (by decide) (by rw [qp_r19.2]; rfl) [some (.ref 4), some (.int r)] (by rw [qp_r19.2]; rfl) ?_
  refine qp_run_E qp_ok19 2 (c' := (2, [some (.ref 4), some (.int r)], [.int r, .ref 4], qp_mk I J)) (by with_unfolding_all rfl) hd1 trivial ?_
  refine qp_cV qp_ok19 (rest := []) (oj := 1) qp_f20 rfl rfl (qs_sizeOf4 l G r I J  (Nat.le_refl 2)) rfl rfl rfl rfl (Nat.le_trans (by decide) hd) ?_
  refine qp_run_E qp_ok19 1 (c' := (6, [some (.ref 4), some (.int r)], [.int (-1), .int (if (0 ≤ r ∧ r < 4) then (I 5 (Int32.toNatClampNeg r)) else -1)], qp_mk I J)) (by with_unfolding_all rfl) hd1 trivial ?_
  refine qp_br_E qp_ok19 (f := (if (0 ≤ r ∧ r < 4) then (I 5 (Int32.toNatClampNeg r)) else -1) = (-1)) (ct := (13, [some (.ref 4), some (.int r)], [], qp_mk I J)) (cf := (9, [some (.ref 4), some (.int r)], [], qp_mk I J)) (by with_unfolding_all rfl) (fun h1 => ?_) (fun h1 => ?_)
  · refine qp_run_E qp_ok19 1 (c' := (14, [some (.ref 4), some (.int r)], [.int 0], qp_mk I J)) (by with_unfolding_all rfl) hd1 trivial ?_
    exact qp_retZ_E qp_ok19 rfl qp_r19.1 (by first | rfl | exact qp_b2_nar) ⟨rfl, rfl⟩ ⟨congrArg (fun z => some (Value.int z)) (by first | rfl | exact qp_b2_t (by grind) | exact qp_b2_f (by grind) | exact qp_b2_c (by grind)), rfl⟩
  · refine qp_run_E qp_ok19 2 (c' := (14, [some (.ref 4), some (.int r)], [.int 1], qp_mk I J)) (by with_unfolding_all rfl) hd1 trivial ?_
    exact qp_retZ_E qp_ok19 rfl qp_r19.1 (by first | rfl | exact qp_b2_nar) ⟨rfl, rfl⟩ ⟨congrArg (fun z => some (Value.int z)) (by first | rfl | exact qp_b2_t (by grind) | exact qp_b2_f (by grind) | exact qp_b2_c (by grind)), rfl⟩

theorem qs_hasPlace4 (l : Launch) (G : qp_G) (r : Int32) (i : Int32) (I : Nat → Nat → Int32) (J : Nat → Nat → Int64)  {d : Nat} (hd : 2 ≤ d) : qp_Met l G d 21 [.ref 4, .int r, .int i] (qp_mk I J) 0 0 (qp_R8 (some (.int (qp_b2 ((0 ≤ r ∧ r < 4) ∧ 0 ≤ i ∧ i < (I 5 (Int32.toNatClampNeg r)))))) I J) := by
  have hd1 : Nat.ble 1 d = true := Nat.ble_eq_true_of_le (Nat.le_trans (by decide) hd)
  refine qp_Met_of (by decide) (by rw [qp_r21.2]; rfl) [some (.ref 4), some (.int r), some (.int i)] (by rw [qp_r21.2]; rfl) ?_
  refine qp_run_E qp_ok21 2 (c' := (2, [some (.ref 4), some (.int r), some (.int i)], [.int r, .ref 4], qp_mk I J)) (by with_unfolding_all rfl) hd1 trivial ?_
  refine qp_cV qp_ok21 (rest := []) (oj := 1) qp_f13 rfl rfl (qs_isNumber4 l G r I J  (Nat.le_refl 1)) rfl rfl rfl rfl (Nat.le_trans (by decide) hd) ?_
  refine qp_br_E qp_ok21 (f := (qp_b2 (0 ≤ r ∧ r < 4)) = 0) (ct := (26, [some (.ref 4), some (.int r), some (.int i)], [], qp_mk I J)) (cf := (8, [some (.ref 4), some (.int r), some (.int i)], [], qp_mk I J)) (by with_unfolding_all rfl) (fun h1 => ?_) (fun h1 => ?_)
  · have h1 := qp_b2_0.mp h1
    refine qp_run_E qp_ok21 1 (c' := (27, [some (.ref 4), some (.int r), some (.int i)], [.int 0], qp_mk I J)) (by with_unfolding_all rfl) hd1 trivial ?_
    exact qp_retZ_E qp_ok21 rfl qp_r21.1 (by first | rfl | exact qp_b2_nar) ⟨rfl, rfl⟩ ⟨congrArg (fun z => some (Value.int z)) (by first | rfl | exact qp_b2_t (by grind) | exact qp_b2_f (by grind) | exact qp_b2_c (by grind)), rfl⟩
  · have h1 := qp_b2_1.mp h1
    refine qp_run_E qp_ok21 1 (c' := (9, [some (.ref 4), some (.int r), some (.int i)], [.int i], qp_mk I J)) (by with_unfolding_all rfl) hd1 trivial ?_
    refine qp_br_E qp_ok21 (f := i < 0) (ct := (26, [some (.ref 4), some (.int r), some (.int i)], [], qp_mk I J)) (cf := (12, [some (.ref 4), some (.int r), some (.int i)], [], qp_mk I J)) (by with_unfolding_all rfl) (fun h2 => ?_) (fun h2 => ?_)
    · refine qp_run_E qp_ok21 1 (c' := (27, [some (.ref 4), some (.int r), some (.int i)], [.int 0], qp_mk I J)) (by with_unfolding_all rfl) hd1 trivial ?_
      exact qp_retZ_E qp_ok21 rfl qp_r21.1 (by first | rfl | exact qp_b2_nar) ⟨rfl, rfl⟩ ⟨congrArg (fun z => some (Value.int z)) (by first | rfl | exact qp_b2_t (by grind) | exact qp_b2_f (by grind) | exact qp_b2_c (by grind)), rfl⟩
    · refine qp_run_E qp_ok21 5 (f := vp_in r 4 ∧ True) (c' := (19, [some (.ref 4), some (.int r), some (.int i)], [.int (I 5 (Int32.toNatClampNeg r)), .int i], qp_mk I J)) (by with_unfolding_all rfl) hd1 ⟨(qp_vin (c := 4) (by decide) (by grind) (by grind)), trivial⟩ ?_
      refine qp_br_E qp_ok21 (f := (I 5 (Int32.toNatClampNeg r)) ≤ i) (ct := (26, [some (.ref 4), some (.int r), some (.int i)], [], qp_mk I J)) (cf := (22, [some (.ref 4), some (.int r), some (.int i)], [], qp_mk I J)) (by with_unfolding_all rfl) (fun h3 => ?_) (fun h3 => ?_)
      · refine qp_run_E qp_ok21 1 (c' := (27, [some (.ref 4), some (.int r), some (.int i)], [.int 0], qp_mk I J)) (by with_unfolding_all rfl) hd1 trivial ?_
        exact qp_retZ_E qp_ok21 rfl qp_r21.1 (by first | rfl | exact qp_b2_nar) ⟨rfl, rfl⟩ ⟨congrArg (fun z => some (Value.int z)) (by first | rfl | exact qp_b2_t (by grind) | exact qp_b2_f (by grind) | exact qp_b2_c (by grind)), rfl⟩
      · refine qp_run_E qp_ok21 2 (c' := (27, [some (.ref 4), some (.int r), some (.int i)], [.int 1], qp_mk I J)) (by with_unfolding_all rfl) hd1 trivial ?_
        exact qp_retZ_E qp_ok21 rfl qp_r21.1 (by first | rfl | exact qp_b2_nar) ⟨rfl, rfl⟩ ⟨congrArg (fun z => some (Value.int z)) (by first | rfl | exact qp_b2_t (by grind) | exact qp_b2_f (by grind) | exact qp_b2_c (by grind)), rfl⟩

theorem qs_hasSpan4 (l : Launch) (G : qp_G) (r : Int32) (i : Int32) (n : Int32) (I : Nat → Nat → Int32) (J : Nat → Nat → Int64)  {d : Nat} (hd : 4 ≤ d) : qp_Met l G d 29 [.ref 4, .int r, .int i, .int n] (qp_mk I J) 0 0 (qp_R8 (some (.int (qp_b2 (((0 ≤ r ∧ r < 4) ∧ ¬ (I 5 (Int32.toNatClampNeg r)) = -1) ∧ 0 ≤ n ∧ 0 ≤ i ∧ i ≤ (I 5 (Int32.toNatClampNeg r)) - n)))) I J) := by
  have hd1 : Nat.ble 1 d = true := Nat.ble_eq_true_of_le (Nat.le_trans (by decide) hd)
  refine qp_Met_of (by decide) (by rw [qp_r29.2]; rfl) [some (.ref 4), some (.int r), some (.int i), some (.int n)] (by rw [qp_r29.2]; rfl) ?_
  refine qp_run_E qp_ok29 2 (c' := (2, [some (.ref 4), some (.int r), some (.int i), some (.int n)], [.int r, .ref 4], qp_mk I J)) (by with_unfolding_all rfl) hd1 trivial ?_
  refine qp_cV qp_ok29 (rest := []) (oj := 1) qp_f19 rfl rfl (qs_has4 l G r I J  (Nat.le_refl 3)) rfl rfl rfl rfl (Nat.le_trans (by decide) hd) ?_
  refine qp_br_E qp_ok29 (f := (qp_b2 ((0 ≤ r ∧ r < 4) ∧ ¬ (I 5 (Int32.toNatClampNeg r)) = -1)) = 0) (ct := (31, [some (.ref 4), some (.int r), some (.int i), some (.int n)], [], qp_mk I J)) (cf := (8, [some (.ref 4), some (.int r), some (.int i), some (.int n)], [], qp_mk I J)) (by with_unfolding_all rfl) (fun h1 => ?_) (fun h1 => ?_)
  · have h1 := qp_b2_0.mp h1
    refine qp_run_E qp_ok29 1 (c' := (32, [some (.ref 4), some (.int r), some (.int i), some (.int n)], [.int 0], qp_mk I J)) (by with_unfolding_all rfl) hd1 trivial ?_
    exact qp_retZ_E qp_ok29 rfl qp_r29.1 (by first | rfl | exact qp_b2_nar) ⟨rfl, rfl⟩ ⟨congrArg (fun z => some (Value.int z)) (by first | rfl | exact qp_b2_t (by grind) | exact qp_b2_f (by grind) | exact qp_b2_c (by grind)), rfl⟩
  · have h1 := qp_b2_1.mp h1
    refine qp_run_E qp_ok29 1 (c' := (9, [some (.ref 4), some (.int r), some (.int i), some (.int n)], [.int n], qp_mk I J)) (by with_unfolding_all rfl) hd1 trivial ?_
    refine qp_br_E qp_ok29 (f := n < 0) (ct := (31, [some (.ref 4), some (.int r), some (.int i), some (.int n)], [], qp_mk I J)) (cf := (12, [some (.ref 4), some (.int r), some (.int i), some (.int n)], [], qp_mk I J)) (by with_unfolding_all rfl) (fun h2 => ?_) (fun h2 => ?_)
    · refine qp_run_E qp_ok29 1 (c' := (32, [some (.ref 4), some (.int r), some (.int i), some (.int n)], [.int 0], qp_mk I J)) (by with_unfolding_all rfl) hd1 trivial ?_
      exact qp_retZ_E qp_ok29 rfl qp_r29.1 (by first | rfl | exact qp_b2_nar) ⟨rfl, rfl⟩ ⟨congrArg (fun z => some (Value.int z)) (by first | rfl | exact qp_b2_t (by grind) | exact qp_b2_f (by grind) | exact qp_b2_c (by grind)), rfl⟩
    · refine qp_run_E qp_ok29 1 (c' := (13, [some (.ref 4), some (.int r), some (.int i), some (.int n)], [.int i], qp_mk I J)) (by with_unfolding_all rfl) hd1 trivial ?_
      refine qp_br_E qp_ok29 (f := i < 0) (ct := (31, [some (.ref 4), some (.int r), some (.int i), some (.int n)], [], qp_mk I J)) (cf := (16, [some (.ref 4), some (.int r), some (.int i), some (.int n)], [], qp_mk I J)) (by with_unfolding_all rfl) (fun h3 => ?_) (fun h3 => ?_)
      · refine qp_run_E qp_ok29 1 (c' := (32, [some (.ref 4), some (.int r), some (.int i), some (.int n)], [.int 0], qp_mk I J)) (by with_unfolding_all rfl) hd1 trivial ?_
        exact qp_retZ_E qp_ok29 rfl qp_r29.1 (by first | rfl | exact qp_b2_nar) ⟨rfl, rfl⟩ ⟨congrArg (fun z => some (Value.int z)) (by first | rfl | exact qp_b2_t (by grind) | exact qp_b2_f (by grind) | exact qp_b2_c (by grind)), rfl⟩
      · refine qp_run_E qp_ok29 3 (c' := (19, [some (.ref 4), some (.int r), some (.int i), some (.int n)], [.int r, .ref 4, .int i], qp_mk I J)) (by with_unfolding_all rfl) hd1 trivial ?_
        refine qp_cV qp_ok29 (rest := [.int i]) (oj := 1) qp_f20 rfl rfl (qs_sizeOf4 l G r I J  (Nat.le_refl 2)) rfl rfl rfl rfl (Nat.le_trans (by decide) hd) ?_
        refine qp_run_E qp_ok29 2 (c' := (24, [some (.ref 4), some (.int r), some (.int i), some (.int n)], [.int ((if (0 ≤ r ∧ r < 4) then (I 5 (Int32.toNatClampNeg r)) else -1) - n), .int i], qp_mk I J)) (by with_unfolding_all rfl) hd1 trivial ?_
        refine qp_br_E qp_ok29 (f := ((if (0 ≤ r ∧ r < 4) then (I 5 (Int32.toNatClampNeg r)) else -1) - n) < i) (ct := (31, [some (.ref 4), some (.int r), some (.int i), some (.int n)], [], qp_mk I J)) (cf := (27, [some (.ref 4), some (.int r), some (.int i), some (.int n)], [], qp_mk I J)) (by with_unfolding_all rfl) (fun h4 => ?_) (fun h4 => ?_)
        · refine qp_run_E qp_ok29 1 (c' := (32, [some (.ref 4), some (.int r), some (.int i), some (.int n)], [.int 0], qp_mk I J)) (by with_unfolding_all rfl) hd1 trivial ?_
          exact qp_retZ_E qp_ok29 rfl qp_r29.1 (by first | rfl | exact qp_b2_nar) ⟨rfl, rfl⟩ ⟨congrArg (fun z => some (Value.int z)) (by first | rfl | exact qp_b2_t (by grind) | exact qp_b2_f (by grind) | exact qp_b2_c (by grind)), rfl⟩
        · refine qp_run_E qp_ok29 2 (c' := (32, [some (.ref 4), some (.int r), some (.int i), some (.int n)], [.int 1], qp_mk I J)) (by with_unfolding_all rfl) hd1 trivial ?_
          exact qp_retZ_E qp_ok29 rfl qp_r29.1 (by first | rfl | exact qp_b2_nar) ⟨rfl, rfl⟩ ⟨congrArg (fun z => some (Value.int z)) (by first | rfl | exact qp_b2_t (by grind) | exact qp_b2_f (by grind) | exact qp_b2_c (by grind)), rfl⟩

theorem qs_get4 (l : Launch) (G : qp_G) (r : Int32) (i : Int32) (I : Nat → Nat → Int32) (J : Nat → Nat → Int64) (hk : qs_ok 4 5 4 60 I) {d : Nat} (hd : 3 ≤ d) : qp_Met l G d 22 [.ref 4, .int r, .int i] (qp_mk I J) 0 0 (qp_R8 (some (.int (if ((0 ≤ r ∧ r < 4) ∧ 0 ≤ i ∧ i < (I 5 (Int32.toNatClampNeg r))) then (I 6 (60 * (Int32.toNatClampNeg r) + (Int32.toNatClampNeg i))) else 0))) I J) := by
  have hd1 : Nat.ble 1 d = true := Nat.ble_eq_true_of_le (Nat.le_trans (by decide) hd)
  refine qp_Met_of (by decide) (by rw [qp_r22.2]; rfl) [some (.ref 4), some (.int r), some (.int i)] (by rw [qp_r22.2]; rfl) ?_
  refine qp_run_E qp_ok22 3 (c' := (3, [some (.ref 4), some (.int r), some (.int i)], [.int i, .int r, .ref 4], qp_mk I J)) (by with_unfolding_all rfl) hd1 trivial ?_
  refine qp_cV qp_ok22 (rest := []) (oj := 1) qp_f21 rfl rfl (qs_hasPlace4 l G r i I J  (Nat.le_refl 2)) rfl rfl rfl rfl (Nat.le_trans (by decide) hd) ?_
  refine qp_br_E qp_ok22 (f := (qp_b2 ((0 ≤ r ∧ r < 4) ∧ 0 ≤ i ∧ i < (I 5 (Int32.toNatClampNeg r)))) = 0) (ct := (25, [some (.ref 4), some (.int r), some (.int i)], [], qp_mk I J)) (cf := (9, [some (.ref 4), some (.int r), some (.int i)], [], qp_mk I J)) (by with_unfolding_all rfl) (fun h1 => ?_) (fun h1 => ?_)
  · have h1 := qp_b2_0.mp h1
    refine qp_run_E qp_ok22 1 (c' := (26, [some (.ref 4), some (.int r), some (.int i)], [.int 0], qp_mk I J)) (by with_unfolding_all rfl) hd1 trivial ?_
    exact qp_retI_E qp_ok22 rfl qp_r22.1 ⟨rfl, rfl⟩ ⟨congrArg (fun z => some (Value.int z)) (by first | (rw [if_neg (by assumption)]; done) | (rw [if_pos (by assumption)]; have hk1 := hk.1; have hk2 := hk.2 _ (qp_clt (c := 4) (n := 4) (by decide) h1.1.1 h1.1.2); have hx := qp_ix 60 4 60 4 rfl rfl (by decide) (by decide) (by decide) h1.1.1 h1.1.2 h1.2.1 (by grind); rw [hk1]; exact congrArg (I 6) hx.1)), rfl⟩
  · have h1 := qp_b2_1.mp h1
    refine qp_run_E qp_ok22 10 (f := vp_in ((r * (I 4 0)) + i) 240 ∧ True) (c' := (26, [some (.ref 4), some (.int r), some (.int i)], [.int (I 6 (Int32.toNatClampNeg ((r * (I 4 0)) + i)))], qp_mk I J)) (by with_unfolding_all rfl) hd1 ⟨(qp_vin (c := 240) (by decide) (by have hk1 := hk.1; have hk2 := hk.2 _ (qp_clt (c := 4) (n := 4) (by decide) h1.1.1 h1.1.2); have hx := qp_ix 60 4 60 4 rfl rfl (by decide) (by decide) (by decide) h1.1.1 h1.1.2 h1.2.1 (by grind); rw [hk1]; first | exact hx.2.1 | exact hx.2.2) (by have hk1 := hk.1; have hk2 := hk.2 _ (qp_clt (c := 4) (n := 4) (by decide) h1.1.1 h1.1.2); have hx := qp_ix 60 4 60 4 rfl rfl (by decide) (by decide) (by decide) h1.1.1 h1.1.2 h1.2.1 (by grind); rw [hk1]; first | exact hx.2.1 | exact hx.2.2)), trivial⟩ ?_
    exact qp_retI_E qp_ok22 rfl qp_r22.1 ⟨rfl, rfl⟩ ⟨congrArg (fun z => some (Value.int z)) (by first | (rw [if_neg (by assumption)]; done) | (rw [if_pos (by assumption)]; have hk1 := hk.1; have hk2 := hk.2 _ (qp_clt (c := 4) (n := 4) (by decide) h1.1.1 h1.1.2); have hx := qp_ix 60 4 60 4 rfl rfl (by decide) (by decide) (by decide) h1.1.1 h1.1.2 h1.2.1 (by grind); rw [hk1]; exact congrArg (I 6) hx.1)), rfl⟩

theorem qs_set4 (l : Launch) (G : qp_G) (r : Int32) (i : Int32) (v : Int32) (I : Nat → Nat → Int32) (J : Nat → Nat → Int64) (hk : qs_ok 4 5 4 60 I) (hp : ((0 ≤ r ∧ r < 4) ∧ 0 ≤ i ∧ i < (I 5 (Int32.toNatClampNeg r)))) {d : Nat} (hd : 3 ≤ d) : qp_Met l G d 23 [.ref 4, .int r, .int i, .int v] (qp_mk I J) 0 0 (qp_R8 none (qp_up I 6 (60 * (Int32.toNatClampNeg r) + (Int32.toNatClampNeg i)) v) J) := by
  have hd1 : Nat.ble 1 d = true := Nat.ble_eq_true_of_le (Nat.le_trans (by decide) hd)
  refine qp_Met_of (by decide) (by rw [qp_r23.2]; rfl) [some (.ref 4), some (.int r), some (.int i), some (.int v)] (by rw [qp_r23.2]; rfl) ?_
  refine qp_run_E qp_ok23 3 (c' := (3, [some (.ref 4), some (.int r), some (.int i), some (.int v)], [.int i, .int r, .ref 4], qp_mk I J)) (by with_unfolding_all rfl) hd1 trivial ?_
  refine qp_cV qp_ok23 (rest := []) (oj := 1) qp_f21 rfl rfl (qs_hasPlace4 l G r i I J  (Nat.le_refl 2)) rfl rfl rfl rfl (Nat.le_trans (by decide) hd) ?_
  refine qp_br_E qp_ok23 (f := (qp_b2 ((0 ≤ r ∧ r < 4) ∧ 0 ≤ i ∧ i < (I 5 (Int32.toNatClampNeg r)))) = 0) (ct := (23, [some (.ref 4), some (.int r), some (.int i), some (.int v)], [], qp_mk I J)) (cf := (9, [some (.ref 4), some (.int r), some (.int i), some (.int v)], [], qp_mk I J)) (by with_unfolding_all rfl) (fun h1 => ?_) (fun h1 => ?_)
  · exact absurd (h1) (qp_b2_1.mpr hp)
  · refine qp_run_E qp_ok23 10 (f := vp_in ((r * (I 4 0)) + i) 240 ∧ True) (c' := (23, [some (.ref 4), some (.int r), some (.int i), some (.int v)], [], qp_mk (qp_up I 6 (Int32.toNatClampNeg ((r * (I 4 0)) + i)) v) J)) (by with_unfolding_all rfl) hd1 ⟨(qp_vin (c := 240) (by decide) (by have hk1 := hk.1; have hk2 := hk.2 _ (qp_clt (c := 4) (n := 4) (by decide) hp.1.1 hp.1.2); have hx := qp_ix 60 4 60 4 rfl rfl (by decide) (by decide) (by decide) hp.1.1 hp.1.2 hp.2.1 (by grind); rw [hk1]; first | exact hx.2.1 | exact hx.2.2) (by have hk1 := hk.1; have hk2 := hk.2 _ (qp_clt (c := 4) (n := 4) (by decide) hp.1.1 hp.1.2); have hx := qp_ix 60 4 60 4 rfl rfl (by decide) (by decide) (by decide) hp.1.1 hp.1.2 hp.2.1 (by grind); rw [hk1]; first | exact hx.2.1 | exact hx.2.2)), trivial⟩ ?_
    exact qp_retV_E qp_ok23 rfl qp_r23.1 ⟨rfl, rfl⟩ ⟨rfl, congrArg (fun z => qp_mk z J) (by have hk1 := hk.1; have hk2 := hk.2 _ (qp_clt (c := 4) (n := 4) (by decide) hp.1.1 hp.1.2); have hx := qp_ix 60 4 60 4 rfl rfl (by decide) (by decide) (by decide) hp.1.1 hp.1.2 hp.2.1 (by grind); rw [hk1]; exact congrArg (fun z => qp_up I 6 z v) hx.1)⟩

theorem qs_drop4 (l : Launch) (G : qp_G) (r : Int32) (I : Nat → Nat → Int32) (J : Nat → Nat → Int64) (hp : (0 ≤ r ∧ r < 4)) {d : Nat} (hd : 2 ≤ d) : qp_Met l G d 27 [.ref 4, .int r] (qp_mk I J) 0 0 (qp_R8 none (qp_up I 5 (Int32.toNatClampNeg r) (-1)) J) := by
  have hd1 : Nat.ble 1 d = true := Nat.ble_eq_true_of_le (Nat.le_trans (by decide) hd)
  refine qp_Met_of (by decide) (by rw [qp_r27.2]; rfl) [some (.ref 4), some (.int r)] (by rw [qp_r27.2]; rfl) ?_
  refine qp_run_E qp_ok27 2 (c' := (2, [some (.ref 4), some (.int r)], [.int r, .ref 4], qp_mk I J)) (by with_unfolding_all rfl) hd1 trivial ?_
  refine qp_cV qp_ok27 (rest := []) (oj := 1) qp_f13 rfl rfl (qs_isNumber4 l G r I J  (Nat.le_refl 1)) rfl rfl rfl rfl (Nat.le_trans (by decide) hd) ?_
  refine qp_br_E qp_ok27 (f := (qp_b2 (0 ≤ r ∧ r < 4)) = 0) (ct := (15, [some (.ref 4), some (.int r)], [], qp_mk I J)) (cf := (8, [some (.ref 4), some (.int r)], [], qp_mk I J)) (by with_unfolding_all rfl) (fun h1 => ?_) (fun h1 => ?_)
  · exact absurd (h1) (qp_b2_1.mpr hp)
  · refine qp_run_E qp_ok27 5 (f := vp_in r 4 ∧ True) (c' := (15, [some (.ref 4), some (.int r)], [], qp_mk (qp_up I 5 (Int32.toNatClampNeg r) (-1)) J)) (by with_unfolding_all rfl) hd1 ⟨(qp_vin (c := 4) (by decide) (by grind) (by grind)), trivial⟩ ?_
    exact qp_retV_E qp_ok27 rfl qp_r27.1 ⟨rfl, rfl⟩ ⟨rfl, rfl⟩

theorem qs_fresh4 (l : Launch) (G : qp_G) (r : Int32) (n : Int32) (v : Int32) (I : Nat → Nat → Int32) (J : Nat → Nat → Int64) (hk : qs_ok 4 5 4 60 I) (hp : (0 ≤ r ∧ r < 4) ∧ 0 ≤ n ∧ n ≤ 60) {d : Nat} (hd : 3 ≤ d) : qp_Met l G d 15 [.ref 4, .int r, .int n, .int v] (qp_mk I J) 0 0 (qp_R8 none (qs_fill (qp_up I 5 (Int32.toNatClampNeg r) n) 6 (60 * (Int32.toNatClampNeg r)) (Int32.toNatClampNeg n) v) J) := by
  have hd1 : Nat.ble 1 d = true := Nat.ble_eq_true_of_le (Nat.le_trans (by decide) hd)
  refine qp_Met_of (by decide) (by rw [qp_r15.2]; rfl) [some (.ref 4), some (.int r), some (.int n), some (.int v), none] (by rw [qp_r15.2]; rfl) ?_
  refine qp_run_E qp_ok15 2 (c' := (2, [some (.ref 4), some (.int r), some (.int n), some (.int v), none], [.int r, .ref 4], qp_mk I J)) (by with_unfolding_all rfl) hd1 trivial ?_
  refine qp_cV qp_ok15 (rest := []) (oj := 1) qp_f13 rfl rfl (qs_isNumber4 l G r I J  (Nat.le_refl 1)) rfl rfl rfl rfl (Nat.le_trans (by decide) hd) ?_
  refine qp_br_E qp_ok15 (f := (qp_b2 (0 ≤ r ∧ r < 4)) = 0) (ct := (57, [some (.ref 4), some (.int r), some (.int n), some (.int v), none], [], qp_mk I J)) (cf := (8, [some (.ref 4), some (.int r), some (.int n), some (.int v), none], [], qp_mk I J)) (by with_unfolding_all rfl) (fun h1 => ?_) (fun h1 => ?_)
  · exact absurd (h1) (qp_b2_1.mpr hp.1)
  · refine qp_run_E qp_ok15 1 (c' := (9, [some (.ref 4), some (.int r), some (.int n), some (.int v), none], [.int n], qp_mk I J)) (by with_unfolding_all rfl) hd1 trivial ?_
    refine qp_br_E qp_ok15 (f := n < 0) (ct := (57, [some (.ref 4), some (.int r), some (.int n), some (.int v), none], [], qp_mk I J)) (cf := (12, [some (.ref 4), some (.int r), some (.int n), some (.int v), none], [], qp_mk I J)) (by with_unfolding_all rfl) (fun h2 => ?_) (fun h2 => ?_)
    · exfalso; grind
    · refine qp_run_E qp_ok15 3 (c' := (17, [some (.ref 4), some (.int r), some (.int n), some (.int v), none], [.int (I 4 0), .int n], qp_mk I J)) (by with_unfolding_all rfl) hd1 trivial ?_
      refine qp_br_E qp_ok15 (f := (I 4 0) < n) (ct := (57, [some (.ref 4), some (.int r), some (.int n), some (.int v), none], [], qp_mk I J)) (cf := (20, [some (.ref 4), some (.int r), some (.int n), some (.int v), none], [], qp_mk I J)) (by with_unfolding_all rfl) (fun h3 => ?_) (fun h3 => ?_)
      · exfalso; have := hk.1; grind
      · refine qp_run_E qp_ok15 7 (f := vp_in r 4 ∧ True) (c' := (30, [some (.ref 4), some (.int r), some (.int n), some (.int v), some (.int 0)], [], qp_mk (qp_up I 5 (Int32.toNatClampNeg r) n) J)) (by with_unfolding_all rfl) hd1 ⟨(qp_vin (c := 4) (by decide) (by grind) (by grind)), trivial⟩ ?_
        obtain ⟨en, hn⟩ := qn_ofle (c := 60) (n := 60) rfl (by decide) hp.2.1 hp.2.2
        rw [show (30, [some (.ref 4), some (.int r), some (.int n), some (.int v), some (.int 0)], [], qp_mk (qp_up I 5 (Int32.toNatClampNeg r) n) J) = ((30, [some (.ref 4), some (.int r), some (.int n), some (.int v), some (.int (nI 0))], [], qp_mk (qs_fill (qp_up I 5 (Int32.toNatClampNeg r) n) 6 (60 * (Int32.toNatClampNeg r)) 0 v) J) : qp_C) from by rw [qs_fill_0]; rfl]
        refine qp_loopN (P := fun j30 => qp_E l G d 15 (qp_mk I J) 0 0 (qp_R8 none (qs_fill (qp_up I 5 (Int32.toNatClampNeg r) n) 6 (60 * (Int32.toNatClampNeg r)) (Int32.toNatClampNeg n) v) J) (30, [some (.ref 4), some (.int r), some (.int n), some (.int v), some (.int (nI j30))], [], qp_mk (qs_fill (qp_up I 5 (Int32.toNatClampNeg r) n) 6 (60 * (Int32.toNatClampNeg r)) j30 v) J)) ((Int32.toNatClampNeg n)) ?_ (fun j30 h30 ih30 => ?_) 0 (Nat.zero_le _)
        · refine qp_run_E qp_ok15 2 (c' := (33, [some (.ref 4), some (.int r), some (.int n), some (.int v), some (.int (nI (Int32.toNatClampNeg n)))], [.int n, .int (nI (Int32.toNatClampNeg n))], qp_mk (qs_fill (qp_up I 5 (Int32.toNatClampNeg r) n) 6 (60 * (Int32.toNatClampNeg r)) (Int32.toNatClampNeg n) v) J)) (by with_unfolding_all rfl) hd1 trivial ?_
          refine qp_br_E qp_ok15 (f := n ≤ (nI (Int32.toNatClampNeg n))) (ct := (57, [some (.ref 4), some (.int r), some (.int n), some (.int v), some (.int (nI (Int32.toNatClampNeg n)))], [], qp_mk (qs_fill (qp_up I 5 (Int32.toNatClampNeg r) n) 6 (60 * (Int32.toNatClampNeg r)) (Int32.toNatClampNeg n) v) J)) (cf := (36, [some (.ref 4), some (.int r), some (.int n), some (.int v), some (.int (nI (Int32.toNatClampNeg n)))], [], qp_mk (qs_fill (qp_up I 5 (Int32.toNatClampNeg r) n) 6 (60 * (Int32.toNatClampNeg r)) (Int32.toNatClampNeg n) v) J)) (by with_unfolding_all rfl) (fun h4 => ?_) (fun h4 => ?_)
          · exact qp_retV_E qp_ok15 rfl qp_r15.1 ⟨rfl, rfl⟩ ⟨rfl, rfl⟩
          · exact absurd (by rw [← en]; exact Int32.le_refl n) h4
        · refine qp_run_E qp_ok15 2 (c' := (33, [some (.ref 4), some (.int r), some (.int n), some (.int v), some (.int (nI j30))], [.int n, .int (nI j30)], qp_mk (qs_fill (qp_up I 5 (Int32.toNatClampNeg r) n) 6 (60 * (Int32.toNatClampNeg r)) j30 v) J)) (by with_unfolding_all rfl) hd1 trivial ?_
          refine qp_br_E qp_ok15 (f := n ≤ (nI j30)) (ct := (57, [some (.ref 4), some (.int r), some (.int n), some (.int v), some (.int (nI j30))], [], qp_mk (qs_fill (qp_up I 5 (Int32.toNatClampNeg r) n) 6 (60 * (Int32.toNatClampNeg r)) j30 v) J)) (cf := (36, [some (.ref 4), some (.int r), some (.int n), some (.int v), some (.int (nI j30))], [], qp_mk (qs_fill (qp_up I 5 (Int32.toNatClampNeg r) n) 6 (60 * (Int32.toNatClampNeg r)) j30 v) J)) (by with_unfolding_all rfl) (fun h5 => ?_) (fun h5 => ?_)
          · exact absurd (show nI _ ≤ nI _ from en ▸ h5) (nI_ge h30 (by omega))
          · refine qp_run_E qp_ok15 12 (f := vp_in ((r * (I 4 0)) + (nI j30)) 240 ∧ True) (c' := (30, [some (.ref 4), some (.int r), some (.int n), some (.int v), some (.int ((nI j30) + 1))], [], qp_mk (qp_up (qs_fill (qp_up I 5 (Int32.toNatClampNeg r) n) 6 (60 * (Int32.toNatClampNeg r)) j30 v) 6 (Int32.toNatClampNeg ((r * (I 4 0)) + (nI j30))) v) J)) (by with_unfolding_all rfl) hd1 ⟨(qp_vin (c := 240) (by decide) (by have hx := qp_ix 60 4 60 4 (r := r) (i := nI j30) rfl rfl (by decide) (by decide) (by decide) hp.1.1 hp.1.2 (nI_pos' (by omega)) ((nI_ltI (by omega) (by decide)).mpr (show _ < 60 by omega)); rw [show I 4 0 = 60 from hk.1]; first | exact hx.2.1 | exact hx.2.2) (by have hx := qp_ix 60 4 60 4 (r := r) (i := nI j30) rfl rfl (by decide) (by decide) (by decide) hp.1.1 hp.1.2 (nI_pos' (by omega)) ((nI_ltI (by omega) (by decide)).mpr (show _ < 60 by omega)); rw [show I 4 0 = 60 from hk.1]; first | exact hx.2.1 | exact hx.2.2)), trivial⟩ ?_
            exact qp_E_c (by rw [nI_1, qs_fill_s (by rw [hk.1]; have hx := qp_ix 60 4 60 4 (r := r) (i := nI j30) rfl rfl (by decide) (by decide) (by decide) hp.1.1 hp.1.2 (nI_pos' (by omega)) ((nI_ltI (by omega) (by decide)).mpr (show _ < 60 by omega)); rw [show Int32.toNatClampNeg _ = _ from hx.1]; rw [show Int32.toNatClampNeg (nI j30) = _ from qn_nI (by omega)])]) ih30

theorem qs_isNumber7 (l : Launch) (G : qp_G) (r : Int32) (I : Nat → Nat → Int32) (J : Nat → Nat → Int64)  {d : Nat} (hd : 1 ≤ d) : qp_Met l G d 13 [.ref 7, .int r] (qp_mk I J) 0 0 (qp_R8 (some (.int (qp_b2 (0 ≤ r ∧ r < 3)))) I J) := by
  have hd1 : Nat.ble 1 d = true := Nat.ble_eq_true_of_le (Nat.le_trans (by decide) hd)
  refine qp_Met_of (by decide) (by rw [qp_r13.2]; rfl) [some (.ref 7), some (.int r)] (by rw [qp_r13.2]; rfl) ?_
  refine qp_run_E qp_ok13 1 (c' := (1, [some (.ref 7), some (.int r)], [.int r], qp_mk I J)) (by with_unfolding_all rfl) hd1 trivial ?_
  refine qp_br_E qp_ok13 (f := r < 0) (ct := (17, [some (.ref 7), some (.int r)], [], qp_mk I J)) (cf := (4, [some (.ref 7), some (.int r)], [], qp_mk I J)) (by with_unfolding_all rfl) (fun h1 => ?_) (fun h1 => ?_)
  · refine qp_run_E qp_ok13 1 (c' := (18, [some (.ref 7), some (.int r)], [.int 0], qp_mk I J)) (by with_unfolding_all rfl) hd1 trivial ?_
    exact qp_retZ_E qp_ok13 rfl qp_r13.1 (by first | rfl | exact qp_b2_nar) ⟨rfl, rfl⟩ ⟨congrArg (fun z => some (Value.int z)) (by first | rfl | exact qp_b2_t (by grind) | exact qp_b2_f (by grind) | exact qp_b2_c (by grind)), rfl⟩
  · refine qp_run_E qp_ok13 4 (c' := (10, [some (.ref 7), some (.int r)], [.int 3, .int r], qp_mk I J)) (by with_unfolding_all rfl) hd1 trivial ?_
    refine qp_br_E qp_ok13 (f := 3 ≤ r) (ct := (17, [some (.ref 7), some (.int r)], [], qp_mk I J)) (cf := (13, [some (.ref 7), some (.int r)], [], qp_mk I J)) (by with_unfolding_all rfl) (fun h2 => ?_) (fun h2 => ?_)
    · refine qp_run_E qp_ok13 1 (c' := (18, [some (.ref 7), some (.int r)], [.int 0], qp_mk I J)) (by with_unfolding_all rfl) hd1 trivial ?_
      exact qp_retZ_E qp_ok13 rfl qp_r13.1 (by first | rfl | exact qp_b2_nar) ⟨rfl, rfl⟩ ⟨congrArg (fun z => some (Value.int z)) (by first | rfl | exact qp_b2_t (by grind) | exact qp_b2_f (by grind) | exact qp_b2_c (by grind)), rfl⟩
    · refine qp_run_E qp_ok13 2 (c' := (18, [some (.ref 7), some (.int r)], [.int 1], qp_mk I J)) (by with_unfolding_all rfl) hd1 trivial ?_
      exact qp_retZ_E qp_ok13 rfl qp_r13.1 (by first | rfl | exact qp_b2_nar) ⟨rfl, rfl⟩ ⟨congrArg (fun z => some (Value.int z)) (by first | rfl | exact qp_b2_t (by grind) | exact qp_b2_f (by grind) | exact qp_b2_c (by grind)), rfl⟩

theorem qs_sizeOf7 (l : Launch) (G : qp_G) (r : Int32) (I : Nat → Nat → Int32) (J : Nat → Nat → Int64)  {d : Nat} (hd : 2 ≤ d) : qp_Met l G d 20 [.ref 7, .int r] (qp_mk I J) 0 0 (qp_R8 (some (.int (if (0 ≤ r ∧ r < 3) then (I 8 (Int32.toNatClampNeg r)) else -1))) I J) := by
  have hd1 : Nat.ble 1 d = true := Nat.ble_eq_true_of_le (Nat.le_trans (by decide) hd)
  refine qp_Met_of (by decide) (by rw [qp_r20.2]; rfl) [some (.ref 7), some (.int r)] (by rw [qp_r20.2]; rfl) ?_
  refine qp_run_E qp_ok20 2 (c' := (2, [some (.ref 7), some (.int r)], [.int r, .ref 7], qp_mk I J)) (by with_unfolding_all rfl) hd1 trivial ?_
  refine qp_cV qp_ok20 (rest := []) (oj := 1) qp_f13 rfl rfl (qs_isNumber7 l G r I J  (Nat.le_refl 1)) rfl rfl rfl rfl (Nat.le_trans (by decide) hd) ?_
  refine qp_br_E qp_ok20 (f := (qp_b2 (0 ≤ r ∧ r < 3)) = 0) (ct := (17, [some (.ref 7), some (.int r)], [], qp_mk I J)) (cf := (8, [some (.ref 7), some (.int r)], [], qp_mk I J)) (by with_unfolding_all rfl) (fun h1 => ?_) (fun h1 => ?_)
  · have h1 := qp_b2_0.mp h1
    refine qp_run_E qp_ok20 1 (c' := (18, [some (.ref 7), some (.int r)], [.int (-1)], qp_mk I J)) (by with_unfolding_all rfl) hd1 trivial ?_
    exact qp_retI_E qp_ok20 rfl qp_r20.1 ⟨rfl, rfl⟩ ⟨congrArg (fun z => some (Value.int z)) (by first | rw [if_pos (by assumption)] | rw [if_neg (by assumption)]), rfl⟩
  · have h1 := qp_b2_1.mp h1
    refine qp_run_E qp_ok20 5 (f := vp_in r 3 ∧ True) (c' := (18, [some (.ref 7), some (.int r)], [.int (I 8 (Int32.toNatClampNeg r))], qp_mk I J)) (by with_unfolding_all rfl) hd1 ⟨(qp_vin (c := 3) (by decide) (by grind) (by grind)), trivial⟩ ?_
    exact qp_retI_E qp_ok20 rfl qp_r20.1 ⟨rfl, rfl⟩ ⟨congrArg (fun z => some (Value.int z)) (by first | rw [if_pos (by assumption)] | rw [if_neg (by assumption)]), rfl⟩

theorem qs_has7 (l : Launch) (G : qp_G) (r : Int32) (I : Nat → Nat → Int32) (J : Nat → Nat → Int64)  {d : Nat} (hd : 3 ≤ d) : qp_Met l G d 19 [.ref 7, .int r] (qp_mk I J) 0 0 (qp_R8 (some (.int (qp_b2 ((0 ≤ r ∧ r < 3) ∧ ¬ (I 8 (Int32.toNatClampNeg r)) = -1)))) I J) := by
  have hd1 : Nat.ble 1 d = true := Nat.ble_eq_true_of_le (Nat.le_trans (by decide) hd)
  refine qp_Met_of (by decide) (by rw [qp_r19.2]; rfl) [some (.ref 7), some (.int r)] (by rw [qp_r19.2]; rfl) ?_
  refine qp_run_E qp_ok19 2 (c' := (2, [some (.ref 7), some (.int r)], [.int r, .ref 7], qp_mk I J)) (by with_unfolding_all rfl) hd1 trivial ?_
  refine qp_cV qp_ok19 (rest := []) (oj := 1) qp_f20 rfl rfl (qs_sizeOf7 l G r I J  (Nat.le_refl 2)) rfl rfl rfl rfl (Nat.le_trans (by decide) hd) ?_
  refine qp_run_E qp_ok19 1 (c' := (6, [some (.ref 7), some (.int r)], [.int (-1), .int (if (0 ≤ r ∧ r < 3) then (I 8 (Int32.toNatClampNeg r)) else -1)], qp_mk I J)) (by with_unfolding_all rfl) hd1 trivial ?_
  refine qp_br_E qp_ok19 (f := (if (0 ≤ r ∧ r < 3) then (I 8 (Int32.toNatClampNeg r)) else -1) = (-1)) (ct := (13, [some (.ref 7), some (.int r)], [], qp_mk I J)) (cf := (9, [some (.ref 7), some (.int r)], [], qp_mk I J)) (by with_unfolding_all rfl) (fun h1 => ?_) (fun h1 => ?_)
  · refine qp_run_E qp_ok19 1 (c' := (14, [some (.ref 7), some (.int r)], [.int 0], qp_mk I J)) (by with_unfolding_all rfl) hd1 trivial ?_
    exact qp_retZ_E qp_ok19 rfl qp_r19.1 (by first | rfl | exact qp_b2_nar) ⟨rfl, rfl⟩ ⟨congrArg (fun z => some (Value.int z)) (by first | rfl | exact qp_b2_t (by grind) | exact qp_b2_f (by grind) | exact qp_b2_c (by grind)), rfl⟩
  · refine qp_run_E qp_ok19 2 (c' := (14, [some (.ref 7), some (.int r)], [.int 1], qp_mk I J)) (by with_unfolding_all rfl) hd1 trivial ?_
    exact qp_retZ_E qp_ok19 rfl qp_r19.1 (by first | rfl | exact qp_b2_nar) ⟨rfl, rfl⟩ ⟨congrArg (fun z => some (Value.int z)) (by first | rfl | exact qp_b2_t (by grind) | exact qp_b2_f (by grind) | exact qp_b2_c (by grind)), rfl⟩

theorem qs_hasPlace7 (l : Launch) (G : qp_G) (r : Int32) (i : Int32) (I : Nat → Nat → Int32) (J : Nat → Nat → Int64)  {d : Nat} (hd : 2 ≤ d) : qp_Met l G d 21 [.ref 7, .int r, .int i] (qp_mk I J) 0 0 (qp_R8 (some (.int (qp_b2 ((0 ≤ r ∧ r < 3) ∧ 0 ≤ i ∧ i < (I 8 (Int32.toNatClampNeg r)))))) I J) := by
  have hd1 : Nat.ble 1 d = true := Nat.ble_eq_true_of_le (Nat.le_trans (by decide) hd)
  refine qp_Met_of (by decide) (by rw [qp_r21.2]; rfl) [some (.ref 7), some (.int r), some (.int i)] (by rw [qp_r21.2]; rfl) ?_
  refine qp_run_E qp_ok21 2 (c' := (2, [some (.ref 7), some (.int r), some (.int i)], [.int r, .ref 7], qp_mk I J)) (by with_unfolding_all rfl) hd1 trivial ?_
  refine qp_cV qp_ok21 (rest := []) (oj := 1) qp_f13 rfl rfl (qs_isNumber7 l G r I J  (Nat.le_refl 1)) rfl rfl rfl rfl (Nat.le_trans (by decide) hd) ?_
  refine qp_br_E qp_ok21 (f := (qp_b2 (0 ≤ r ∧ r < 3)) = 0) (ct := (26, [some (.ref 7), some (.int r), some (.int i)], [], qp_mk I J)) (cf := (8, [some (.ref 7), some (.int r), some (.int i)], [], qp_mk I J)) (by with_unfolding_all rfl) (fun h1 => ?_) (fun h1 => ?_)
  · have h1 := qp_b2_0.mp h1
    refine qp_run_E qp_ok21 1 (c' := (27, [some (.ref 7), some (.int r), some (.int i)], [.int 0], qp_mk I J)) (by with_unfolding_all rfl) hd1 trivial ?_
    exact qp_retZ_E qp_ok21 rfl qp_r21.1 (by first | rfl | exact qp_b2_nar) ⟨rfl, rfl⟩ ⟨congrArg (fun z => some (Value.int z)) (by first | rfl | exact qp_b2_t (by grind) | exact qp_b2_f (by grind) | exact qp_b2_c (by grind)), rfl⟩
  · have h1 := qp_b2_1.mp h1
    refine qp_run_E qp_ok21 1 (c' := (9, [some (.ref 7), some (.int r), some (.int i)], [.int i], qp_mk I J)) (by with_unfolding_all rfl) hd1 trivial ?_
    refine qp_br_E qp_ok21 (f := i < 0) (ct := (26, [some (.ref 7), some (.int r), some (.int i)], [], qp_mk I J)) (cf := (12, [some (.ref 7), some (.int r), some (.int i)], [], qp_mk I J)) (by with_unfolding_all rfl) (fun h2 => ?_) (fun h2 => ?_)
    · refine qp_run_E qp_ok21 1 (c' := (27, [some (.ref 7), some (.int r), some (.int i)], [.int 0], qp_mk I J)) (by with_unfolding_all rfl) hd1 trivial ?_
      exact qp_retZ_E qp_ok21 rfl qp_r21.1 (by first | rfl | exact qp_b2_nar) ⟨rfl, rfl⟩ ⟨congrArg (fun z => some (Value.int z)) (by first | rfl | exact qp_b2_t (by grind) | exact qp_b2_f (by grind) | exact qp_b2_c (by grind)), rfl⟩
    · refine qp_run_E qp_ok21 5 (f := vp_in r 3 ∧ True) (c' := (19, [some (.ref 7), some (.int r), some (.int i)], [.int (I 8 (Int32.toNatClampNeg r)), .int i], qp_mk I J)) (by with_unfolding_all rfl) hd1 ⟨(qp_vin (c := 3) (by decide) (by grind) (by grind)), trivial⟩ ?_
      refine qp_br_E qp_ok21 (f := (I 8 (Int32.toNatClampNeg r)) ≤ i) (ct := (26, [some (.ref 7), some (.int r), some (.int i)], [], qp_mk I J)) (cf := (22, [some (.ref 7), some (.int r), some (.int i)], [], qp_mk I J)) (by with_unfolding_all rfl) (fun h3 => ?_) (fun h3 => ?_)
      · refine qp_run_E qp_ok21 1 (c' := (27, [some (.ref 7), some (.int r), some (.int i)], [.int 0], qp_mk I J)) (by with_unfolding_all rfl) hd1 trivial ?_
        exact qp_retZ_E qp_ok21 rfl qp_r21.1 (by first | rfl | exact qp_b2_nar) ⟨rfl, rfl⟩ ⟨congrArg (fun z => some (Value.int z)) (by first | rfl | exact qp_b2_t (by grind) | exact qp_b2_f (by grind) | exact qp_b2_c (by grind)), rfl⟩
      · refine qp_run_E qp_ok21 2 (c' := (27, [some (.ref 7), some (.int r), some (.int i)], [.int 1], qp_mk I J)) (by with_unfolding_all rfl) hd1 trivial ?_
        exact qp_retZ_E qp_ok21 rfl qp_r21.1 (by first | rfl | exact qp_b2_nar) ⟨rfl, rfl⟩ ⟨congrArg (fun z => some (Value.int z)) (by first | rfl | exact qp_b2_t (by grind) | exact qp_b2_f (by grind) | exact qp_b2_c (by grind)), rfl⟩

theorem qs_hasSpan7 (l : Launch) (G : qp_G) (r : Int32) (i : Int32) (n : Int32) (I : Nat → Nat → Int32) (J : Nat → Nat → Int64)  {d : Nat} (hd : 4 ≤ d) : qp_Met l G d 29 [.ref 7, .int r, .int i, .int n] (qp_mk I J) 0 0 (qp_R8 (some (.int (qp_b2 (((0 ≤ r ∧ r < 3) ∧ ¬ (I 8 (Int32.toNatClampNeg r)) = -1) ∧ 0 ≤ n ∧ 0 ≤ i ∧ i ≤ (I 8 (Int32.toNatClampNeg r)) - n)))) I J) := by
  have hd1 : Nat.ble 1 d = true := Nat.ble_eq_true_of_le (Nat.le_trans (by decide) hd)
  refine qp_Met_of (by decide) (by rw [qp_r29.2]; rfl) [some (.ref 7), some (.int r), some (.int i), some (.int n)] (by rw [qp_r29.2]; rfl) ?_
  refine qp_run_E qp_ok29 2 (c' := (2, [some (.ref 7), some (.int r), some (.int i), some (.int n)], [.int r, .ref 7], qp_mk I J)) (by with_unfolding_all rfl) hd1 trivial ?_
  refine qp_cV qp_ok29 (rest := []) (oj := 1) qp_f19 rfl rfl (qs_has7 l G r I J  (Nat.le_refl 3)) rfl rfl rfl rfl (Nat.le_trans (by decide) hd) ?_
  refine qp_br_E qp_ok29 (f := (qp_b2 ((0 ≤ r ∧ r < 3) ∧ ¬ (I 8 (Int32.toNatClampNeg r)) = -1)) = 0) (ct := (31, [some (.ref 7), some (.int r), some (.int i), some (.int n)], [], qp_mk I J)) (cf := (8, [some (.ref 7), some (.int r), some (.int i), some (.int n)], [], qp_mk I J)) (by with_unfolding_all rfl) (fun h1 => ?_) (fun h1 => ?_)
  · have h1 := qp_b2_0.mp h1
    refine qp_run_E qp_ok29 1 (c' := (32, [some (.ref 7), some (.int r), some (.int i), some (.int n)], [.int 0], qp_mk I J)) (by with_unfolding_all rfl) hd1 trivial ?_
    exact qp_retZ_E qp_ok29 rfl qp_r29.1 (by first | rfl | exact qp_b2_nar) ⟨rfl, rfl⟩ ⟨congrArg (fun z => some (Value.int z)) (by first | rfl | exact qp_b2_t (by grind) | exact qp_b2_f (by grind) | exact qp_b2_c (by grind)), rfl⟩
  · have h1 := qp_b2_1.mp h1
    refine qp_run_E qp_ok29 1 (c' := (9, [some (.ref 7), some (.int r), some (.int i), some (.int n)], [.int n], qp_mk I J)) (by with_unfolding_all rfl) hd1 trivial ?_
    refine qp_br_E qp_ok29 (f := n < 0) (ct := (31, [some (.ref 7), some (.int r), some (.int i), some (.int n)], [], qp_mk I J)) (cf := (12, [some (.ref 7), some (.int r), some (.int i), some (.int n)], [], qp_mk I J)) (by with_unfolding_all rfl) (fun h2 => ?_) (fun h2 => ?_)
    · refine qp_run_E qp_ok29 1 (c' := (32, [some (.ref 7), some (.int r), some (.int i), some (.int n)], [.int 0], qp_mk I J)) (by with_unfolding_all rfl) hd1 trivial ?_
      exact qp_retZ_E qp_ok29 rfl qp_r29.1 (by first | rfl | exact qp_b2_nar) ⟨rfl, rfl⟩ ⟨congrArg (fun z => some (Value.int z)) (by first | rfl | exact qp_b2_t (by grind) | exact qp_b2_f (by grind) | exact qp_b2_c (by grind)), rfl⟩
    · refine qp_run_E qp_ok29 1 (c' := (13, [some (.ref 7), some (.int r), some (.int i), some (.int n)], [.int i], qp_mk I J)) (by with_unfolding_all rfl) hd1 trivial ?_
      refine qp_br_E qp_ok29 (f := i < 0) (ct := (31, [some (.ref 7), some (.int r), some (.int i), some (.int n)], [], qp_mk I J)) (cf := (16, [some (.ref 7), some (.int r), some (.int i), some (.int n)], [], qp_mk I J)) (by with_unfolding_all rfl) (fun h3 => ?_) (fun h3 => ?_)
      · refine qp_run_E qp_ok29 1 (c' := (32, [some (.ref 7), some (.int r), some (.int i), some (.int n)], [.int 0], qp_mk I J)) (by with_unfolding_all rfl) hd1 trivial ?_
        exact qp_retZ_E qp_ok29 rfl qp_r29.1 (by first | rfl | exact qp_b2_nar) ⟨rfl, rfl⟩ ⟨congrArg (fun z => some (Value.int z)) (by first | rfl | exact qp_b2_t (by grind) | exact qp_b2_f (by grind) | exact qp_b2_c (by grind)), rfl⟩
      · refine qp_run_E qp_ok29 3 (c' := (19, [some (.ref 7), some (.int r), some (.int i), some (.int n)], [.int r, .ref 7, .int i], qp_mk I J)) (by with_unfolding_all rfl) hd1 trivial ?_
        refine qp_cV qp_ok29 (rest := [.int i]) (oj := 1) qp_f20 rfl rfl (qs_sizeOf7 l G r I J  (Nat.le_refl 2)) rfl rfl rfl rfl (Nat.le_trans (by decide) hd) ?_
        refine qp_run_E qp_ok29 2 (c' := (24, [some (.ref 7), some (.int r), some (.int i), some (.int n)], [.int ((if (0 ≤ r ∧ r < 3) then (I 8 (Int32.toNatClampNeg r)) else -1) - n), .int i], qp_mk I J)) (by with_unfolding_all rfl) hd1 trivial ?_
        refine qp_br_E qp_ok29 (f := ((if (0 ≤ r ∧ r < 3) then (I 8 (Int32.toNatClampNeg r)) else -1) - n) < i) (ct := (31, [some (.ref 7), some (.int r), some (.int i), some (.int n)], [], qp_mk I J)) (cf := (27, [some (.ref 7), some (.int r), some (.int i), some (.int n)], [], qp_mk I J)) (by with_unfolding_all rfl) (fun h4 => ?_) (fun h4 => ?_)
        · refine qp_run_E qp_ok29 1 (c' := (32, [some (.ref 7), some (.int r), some (.int i), some (.int n)], [.int 0], qp_mk I J)) (by with_unfolding_all rfl) hd1 trivial ?_
          exact qp_retZ_E qp_ok29 rfl qp_r29.1 (by first | rfl | exact qp_b2_nar) ⟨rfl, rfl⟩ ⟨congrArg (fun z => some (Value.int z)) (by first | rfl | exact qp_b2_t (by grind) | exact qp_b2_f (by grind) | exact qp_b2_c (by grind)), rfl⟩
        · refine qp_run_E qp_ok29 2 (c' := (32, [some (.ref 7), some (.int r), some (.int i), some (.int n)], [.int 1], qp_mk I J)) (by with_unfolding_all rfl) hd1 trivial ?_
          exact qp_retZ_E qp_ok29 rfl qp_r29.1 (by first | rfl | exact qp_b2_nar) ⟨rfl, rfl⟩ ⟨congrArg (fun z => some (Value.int z)) (by first | rfl | exact qp_b2_t (by grind) | exact qp_b2_f (by grind) | exact qp_b2_c (by grind)), rfl⟩

theorem qs_get7 (l : Launch) (G : qp_G) (r : Int32) (i : Int32) (I : Nat → Nat → Int32) (J : Nat → Nat → Int64) (hk : qs_ok 7 8 3 40 I) {d : Nat} (hd : 3 ≤ d) : qp_Met l G d 22 [.ref 7, .int r, .int i] (qp_mk I J) 0 0 (qp_R8 (some (.int (if ((0 ≤ r ∧ r < 3) ∧ 0 ≤ i ∧ i < (I 8 (Int32.toNatClampNeg r))) then (I 9 (40 * (Int32.toNatClampNeg r) + (Int32.toNatClampNeg i))) else 0))) I J) := by
  have hd1 : Nat.ble 1 d = true := Nat.ble_eq_true_of_le (Nat.le_trans (by decide) hd)
  refine qp_Met_of (by decide) (by rw [qp_r22.2]; rfl) [some (.ref 7), some (.int r), some (.int i)] (by rw [qp_r22.2]; rfl) ?_
  refine qp_run_E qp_ok22 3 (c' := (3, [some (.ref 7), some (.int r), some (.int i)], [.int i, .int r, .ref 7], qp_mk I J)) (by with_unfolding_all rfl) hd1 trivial ?_
  refine qp_cV qp_ok22 (rest := []) (oj := 1) qp_f21 rfl rfl (qs_hasPlace7 l G r i I J  (Nat.le_refl 2)) rfl rfl rfl rfl (Nat.le_trans (by decide) hd) ?_
  refine qp_br_E qp_ok22 (f := (qp_b2 ((0 ≤ r ∧ r < 3) ∧ 0 ≤ i ∧ i < (I 8 (Int32.toNatClampNeg r)))) = 0) (ct := (25, [some (.ref 7), some (.int r), some (.int i)], [], qp_mk I J)) (cf := (9, [some (.ref 7), some (.int r), some (.int i)], [], qp_mk I J)) (by with_unfolding_all rfl) (fun h1 => ?_) (fun h1 => ?_)
  · have h1 := qp_b2_0.mp h1
    refine qp_run_E qp_ok22 1 (c' := (26, [some (.ref 7), some (.int r), some (.int i)], [.int 0], qp_mk I J)) (by with_unfolding_all rfl) hd1 trivial ?_
    exact qp_retI_E qp_ok22 rfl qp_r22.1 ⟨rfl, rfl⟩ ⟨congrArg (fun z => some (Value.int z)) (by first | (rw [if_neg (by assumption)]; done) | (rw [if_pos (by assumption)]; have hk1 := hk.1; have hk2 := hk.2 _ (qp_clt (c := 3) (n := 3) (by decide) h1.1.1 h1.1.2); have hx := qp_ix 40 3 40 3 rfl rfl (by decide) (by decide) (by decide) h1.1.1 h1.1.2 h1.2.1 (by grind); rw [hk1]; exact congrArg (I 9) hx.1)), rfl⟩
  · have h1 := qp_b2_1.mp h1
    refine qp_run_E qp_ok22 10 (f := vp_in ((r * (I 7 0)) + i) 120 ∧ True) (c' := (26, [some (.ref 7), some (.int r), some (.int i)], [.int (I 9 (Int32.toNatClampNeg ((r * (I 7 0)) + i)))], qp_mk I J)) (by with_unfolding_all rfl) hd1 ⟨(qp_vin (c := 120) (by decide) (by have hk1 := hk.1; have hk2 := hk.2 _ (qp_clt (c := 3) (n := 3) (by decide) h1.1.1 h1.1.2); have hx := qp_ix 40 3 40 3 rfl rfl (by decide) (by decide) (by decide) h1.1.1 h1.1.2 h1.2.1 (by grind); rw [hk1]; first | exact hx.2.1 | exact hx.2.2) (by have hk1 := hk.1; have hk2 := hk.2 _ (qp_clt (c := 3) (n := 3) (by decide) h1.1.1 h1.1.2); have hx := qp_ix 40 3 40 3 rfl rfl (by decide) (by decide) (by decide) h1.1.1 h1.1.2 h1.2.1 (by grind); rw [hk1]; first | exact hx.2.1 | exact hx.2.2)), trivial⟩ ?_
    exact qp_retI_E qp_ok22 rfl qp_r22.1 ⟨rfl, rfl⟩ ⟨congrArg (fun z => some (Value.int z)) (by first | (rw [if_neg (by assumption)]; done) | (rw [if_pos (by assumption)]; have hk1 := hk.1; have hk2 := hk.2 _ (qp_clt (c := 3) (n := 3) (by decide) h1.1.1 h1.1.2); have hx := qp_ix 40 3 40 3 rfl rfl (by decide) (by decide) (by decide) h1.1.1 h1.1.2 h1.2.1 (by grind); rw [hk1]; exact congrArg (I 9) hx.1)), rfl⟩

theorem qs_set7 (l : Launch) (G : qp_G) (r : Int32) (i : Int32) (v : Int32) (I : Nat → Nat → Int32) (J : Nat → Nat → Int64) (hk : qs_ok 7 8 3 40 I) (hp : ((0 ≤ r ∧ r < 3) ∧ 0 ≤ i ∧ i < (I 8 (Int32.toNatClampNeg r)))) {d : Nat} (hd : 3 ≤ d) : qp_Met l G d 23 [.ref 7, .int r, .int i, .int v] (qp_mk I J) 0 0 (qp_R8 none (qp_up I 9 (40 * (Int32.toNatClampNeg r) + (Int32.toNatClampNeg i)) v) J) := by
  have hd1 : Nat.ble 1 d = true := Nat.ble_eq_true_of_le (Nat.le_trans (by decide) hd)
  refine qp_Met_of (by decide) (by rw [qp_r23.2]; rfl) [some (.ref 7), some (.int r), some (.int i), some (.int v)] (by rw [qp_r23.2]; rfl) ?_
  refine qp_run_E qp_ok23 3 (c' := (3, [some (.ref 7), some (.int r), some (.int i), some (.int v)], [.int i, .int r, .ref 7], qp_mk I J)) (by with_unfolding_all rfl) hd1 trivial ?_
  refine qp_cV qp_ok23 (rest := []) (oj := 1) qp_f21 rfl rfl (qs_hasPlace7 l G r i I J  (Nat.le_refl 2)) rfl rfl rfl rfl (Nat.le_trans (by decide) hd) ?_
  refine qp_br_E qp_ok23 (f := (qp_b2 ((0 ≤ r ∧ r < 3) ∧ 0 ≤ i ∧ i < (I 8 (Int32.toNatClampNeg r)))) = 0) (ct := (23, [some (.ref 7), some (.int r), some (.int i), some (.int v)], [], qp_mk I J)) (cf := (9, [some (.ref 7), some (.int r), some (.int i), some (.int v)], [], qp_mk I J)) (by with_unfolding_all rfl) (fun h1 => ?_) (fun h1 => ?_)
  · exact absurd (h1) (qp_b2_1.mpr hp)
  · refine qp_run_E qp_ok23 10 (f := vp_in ((r * (I 7 0)) + i) 120 ∧ True) (c' := (23, [some (.ref 7), some (.int r), some (.int i), some (.int v)], [], qp_mk (qp_up I 9 (Int32.toNatClampNeg ((r * (I 7 0)) + i)) v) J)) (by with_unfolding_all rfl) hd1 ⟨(qp_vin (c := 120) (by decide) (by have hk1 := hk.1; have hk2 := hk.2 _ (qp_clt (c := 3) (n := 3) (by decide) hp.1.1 hp.1.2); have hx := qp_ix 40 3 40 3 rfl rfl (by decide) (by decide) (by decide) hp.1.1 hp.1.2 hp.2.1 (by grind); rw [hk1]; first | exact hx.2.1 | exact hx.2.2) (by have hk1 := hk.1; have hk2 := hk.2 _ (qp_clt (c := 3) (n := 3) (by decide) hp.1.1 hp.1.2); have hx := qp_ix 40 3 40 3 rfl rfl (by decide) (by decide) (by decide) hp.1.1 hp.1.2 hp.2.1 (by grind); rw [hk1]; first | exact hx.2.1 | exact hx.2.2)), trivial⟩ ?_
    exact qp_retV_E qp_ok23 rfl qp_r23.1 ⟨rfl, rfl⟩ ⟨rfl, congrArg (fun z => qp_mk z J) (by have hk1 := hk.1; have hk2 := hk.2 _ (qp_clt (c := 3) (n := 3) (by decide) hp.1.1 hp.1.2); have hx := qp_ix 40 3 40 3 rfl rfl (by decide) (by decide) (by decide) hp.1.1 hp.1.2 hp.2.1 (by grind); rw [hk1]; exact congrArg (fun z => qp_up I 9 z v) hx.1)⟩

theorem qs_drop7 (l : Launch) (G : qp_G) (r : Int32) (I : Nat → Nat → Int32) (J : Nat → Nat → Int64) (hp : (0 ≤ r ∧ r < 3)) {d : Nat} (hd : 2 ≤ d) : qp_Met l G d 27 [.ref 7, .int r] (qp_mk I J) 0 0 (qp_R8 none (qp_up I 8 (Int32.toNatClampNeg r) (-1)) J) := by
  have hd1 : Nat.ble 1 d = true := Nat.ble_eq_true_of_le (Nat.le_trans (by decide) hd)
  refine qp_Met_of (by decide) (by rw [qp_r27.2]; rfl) [some (.ref 7), some (.int r)] (by rw [qp_r27.2]; rfl) ?_
  refine qp_run_E qp_ok27 2 (c' := (2, [some (.ref 7), some (.int r)], [.int r, .ref 7], qp_mk I J)) (by with_unfolding_all rfl) hd1 trivial ?_
  refine qp_cV qp_ok27 (rest := []) (oj := 1) qp_f13 rfl rfl (qs_isNumber7 l G r I J  (Nat.le_refl 1)) rfl rfl rfl rfl (Nat.le_trans (by decide) hd) ?_
  refine qp_br_E qp_ok27 (f := (qp_b2 (0 ≤ r ∧ r < 3)) = 0) (ct := (15, [some (.ref 7), some (.int r)], [], qp_mk I J)) (cf := (8, [some (.ref 7), some (.int r)], [], qp_mk I J)) (by with_unfolding_all rfl) (fun h1 => ?_) (fun h1 => ?_)
  · exact absurd (h1) (qp_b2_1.mpr hp)
  · refine qp_run_E qp_ok27 5 (f := vp_in r 3 ∧ True) (c' := (15, [some (.ref 7), some (.int r)], [], qp_mk (qp_up I 8 (Int32.toNatClampNeg r) (-1)) J)) (by with_unfolding_all rfl) hd1 ⟨(qp_vin (c := 3) (by decide) (by grind) (by grind)), trivial⟩ ?_
    exact qp_retV_E qp_ok27 rfl qp_r27.1 ⟨rfl, rfl⟩ ⟨rfl, rfl⟩

theorem qs_fresh7 (l : Launch) (G : qp_G) (r : Int32) (n : Int32) (v : Int32) (I : Nat → Nat → Int32) (J : Nat → Nat → Int64) (hk : qs_ok 7 8 3 40 I) (hp : (0 ≤ r ∧ r < 3) ∧ 0 ≤ n ∧ n ≤ 40) {d : Nat} (hd : 3 ≤ d) : qp_Met l G d 15 [.ref 7, .int r, .int n, .int v] (qp_mk I J) 0 0 (qp_R8 none (qs_fill (qp_up I 8 (Int32.toNatClampNeg r) n) 9 (40 * (Int32.toNatClampNeg r)) (Int32.toNatClampNeg n) v) J) := by
  have hd1 : Nat.ble 1 d = true := Nat.ble_eq_true_of_le (Nat.le_trans (by decide) hd)
  refine qp_Met_of (by decide) (by rw [qp_r15.2]; rfl) [some (.ref 7), some (.int r), some (.int n), some (.int v), none] (by rw [qp_r15.2]; rfl) ?_
  refine qp_run_E qp_ok15 2 (c' := (2, [some (.ref 7), some (.int r), some (.int n), some (.int v), none], [.int r, .ref 7], qp_mk I J)) (by with_unfolding_all rfl) hd1 trivial ?_
  refine qp_cV qp_ok15 (rest := []) (oj := 1) qp_f13 rfl rfl (qs_isNumber7 l G r I J  (Nat.le_refl 1)) rfl rfl rfl rfl (Nat.le_trans (by decide) hd) ?_
  refine qp_br_E qp_ok15 (f := (qp_b2 (0 ≤ r ∧ r < 3)) = 0) (ct := (57, [some (.ref 7), some (.int r), some (.int n), some (.int v), none], [], qp_mk I J)) (cf := (8, [some (.ref 7), some (.int r), some (.int n), some (.int v), none], [], qp_mk I J)) (by with_unfolding_all rfl) (fun h1 => ?_) (fun h1 => ?_)
  · exact absurd (h1) (qp_b2_1.mpr hp.1)
  · refine qp_run_E qp_ok15 1 (c' := (9, [some (.ref 7), some (.int r), some (.int n), some (.int v), none], [.int n], qp_mk I J)) (by with_unfolding_all rfl) hd1 trivial ?_
    refine qp_br_E qp_ok15 (f := n < 0) (ct := (57, [some (.ref 7), some (.int r), some (.int n), some (.int v), none], [], qp_mk I J)) (cf := (12, [some (.ref 7), some (.int r), some (.int n), some (.int v), none], [], qp_mk I J)) (by with_unfolding_all rfl) (fun h2 => ?_) (fun h2 => ?_)
    · exfalso; grind
    · refine qp_run_E qp_ok15 3 (c' := (17, [some (.ref 7), some (.int r), some (.int n), some (.int v), none], [.int (I 7 0), .int n], qp_mk I J)) (by with_unfolding_all rfl) hd1 trivial ?_
      refine qp_br_E qp_ok15 (f := (I 7 0) < n) (ct := (57, [some (.ref 7), some (.int r), some (.int n), some (.int v), none], [], qp_mk I J)) (cf := (20, [some (.ref 7), some (.int r), some (.int n), some (.int v), none], [], qp_mk I J)) (by with_unfolding_all rfl) (fun h3 => ?_) (fun h3 => ?_)
      · exfalso; have := hk.1; grind
      · refine qp_run_E qp_ok15 7 (f := vp_in r 3 ∧ True) (c' := (30, [some (.ref 7), some (.int r), some (.int n), some (.int v), some (.int 0)], [], qp_mk (qp_up I 8 (Int32.toNatClampNeg r) n) J)) (by with_unfolding_all rfl) hd1 ⟨(qp_vin (c := 3) (by decide) (by grind) (by grind)), trivial⟩ ?_
        obtain ⟨en, hn⟩ := qn_ofle (c := 40) (n := 40) rfl (by decide) hp.2.1 hp.2.2
        rw [show (30, [some (.ref 7), some (.int r), some (.int n), some (.int v), some (.int 0)], [], qp_mk (qp_up I 8 (Int32.toNatClampNeg r) n) J) = ((30, [some (.ref 7), some (.int r), some (.int n), some (.int v), some (.int (nI 0))], [], qp_mk (qs_fill (qp_up I 8 (Int32.toNatClampNeg r) n) 9 (40 * (Int32.toNatClampNeg r)) 0 v) J) : qp_C) from by rw [qs_fill_0]; rfl]
        refine qp_loopN (P := fun j30 => qp_E l G d 15 (qp_mk I J) 0 0 (qp_R8 none (qs_fill (qp_up I 8 (Int32.toNatClampNeg r) n) 9 (40 * (Int32.toNatClampNeg r)) (Int32.toNatClampNeg n) v) J) (30, [some (.ref 7), some (.int r), some (.int n), some (.int v), some (.int (nI j30))], [], qp_mk (qs_fill (qp_up I 8 (Int32.toNatClampNeg r) n) 9 (40 * (Int32.toNatClampNeg r)) j30 v) J)) ((Int32.toNatClampNeg n)) ?_ (fun j30 h30 ih30 => ?_) 0 (Nat.zero_le _)
        · refine qp_run_E qp_ok15 2 (c' := (33, [some (.ref 7), some (.int r), some (.int n), some (.int v), some (.int (nI (Int32.toNatClampNeg n)))], [.int n, .int (nI (Int32.toNatClampNeg n))], qp_mk (qs_fill (qp_up I 8 (Int32.toNatClampNeg r) n) 9 (40 * (Int32.toNatClampNeg r)) (Int32.toNatClampNeg n) v) J)) (by with_unfolding_all rfl) hd1 trivial ?_
          refine qp_br_E qp_ok15 (f := n ≤ (nI (Int32.toNatClampNeg n))) (ct := (57, [some (.ref 7), some (.int r), some (.int n), some (.int v), some (.int (nI (Int32.toNatClampNeg n)))], [], qp_mk (qs_fill (qp_up I 8 (Int32.toNatClampNeg r) n) 9 (40 * (Int32.toNatClampNeg r)) (Int32.toNatClampNeg n) v) J)) (cf := (36, [some (.ref 7), some (.int r), some (.int n), some (.int v), some (.int (nI (Int32.toNatClampNeg n)))], [], qp_mk (qs_fill (qp_up I 8 (Int32.toNatClampNeg r) n) 9 (40 * (Int32.toNatClampNeg r)) (Int32.toNatClampNeg n) v) J)) (by with_unfolding_all rfl) (fun h4 => ?_) (fun h4 => ?_)
          · exact qp_retV_E qp_ok15 rfl qp_r15.1 ⟨rfl, rfl⟩ ⟨rfl, rfl⟩
          · exact absurd (by rw [← en]; exact Int32.le_refl n) h4
        · refine qp_run_E qp_ok15 2 (c' := (33, [some (.ref 7), some (.int r), some (.int n), some (.int v), some (.int (nI j30))], [.int n, .int (nI j30)], qp_mk (qs_fill (qp_up I 8 (Int32.toNatClampNeg r) n) 9 (40 * (Int32.toNatClampNeg r)) j30 v) J)) (by with_unfolding_all rfl) hd1 trivial ?_
          refine qp_br_E qp_ok15 (f := n ≤ (nI j30)) (ct := (57, [some (.ref 7), some (.int r), some (.int n), some (.int v), some (.int (nI j30))], [], qp_mk (qs_fill (qp_up I 8 (Int32.toNatClampNeg r) n) 9 (40 * (Int32.toNatClampNeg r)) j30 v) J)) (cf := (36, [some (.ref 7), some (.int r), some (.int n), some (.int v), some (.int (nI j30))], [], qp_mk (qs_fill (qp_up I 8 (Int32.toNatClampNeg r) n) 9 (40 * (Int32.toNatClampNeg r)) j30 v) J)) (by with_unfolding_all rfl) (fun h5 => ?_) (fun h5 => ?_)
          · exact absurd (show nI _ ≤ nI _ from en ▸ h5) (nI_ge h30 (by omega))
          · refine qp_run_E qp_ok15 12 (f := vp_in ((r * (I 7 0)) + (nI j30)) 120 ∧ True) (c' := (30, [some (.ref 7), some (.int r), some (.int n), some (.int v), some (.int ((nI j30) + 1))], [], qp_mk (qp_up (qs_fill (qp_up I 8 (Int32.toNatClampNeg r) n) 9 (40 * (Int32.toNatClampNeg r)) j30 v) 9 (Int32.toNatClampNeg ((r * (I 7 0)) + (nI j30))) v) J)) (by with_unfolding_all rfl) hd1 ⟨(qp_vin (c := 120) (by decide) (by have hx := qp_ix 40 3 40 3 (r := r) (i := nI j30) rfl rfl (by decide) (by decide) (by decide) hp.1.1 hp.1.2 (nI_pos' (by omega)) ((nI_ltI (by omega) (by decide)).mpr (show _ < 40 by omega)); rw [show I 7 0 = 40 from hk.1]; first | exact hx.2.1 | exact hx.2.2) (by have hx := qp_ix 40 3 40 3 (r := r) (i := nI j30) rfl rfl (by decide) (by decide) (by decide) hp.1.1 hp.1.2 (nI_pos' (by omega)) ((nI_ltI (by omega) (by decide)).mpr (show _ < 40 by omega)); rw [show I 7 0 = 40 from hk.1]; first | exact hx.2.1 | exact hx.2.2)), trivial⟩ ?_
            exact qp_E_c (by rw [nI_1, qs_fill_s (by rw [hk.1]; have hx := qp_ix 40 3 40 3 (r := r) (i := nI j30) rfl rfl (by decide) (by decide) (by decide) hp.1.1 hp.1.2 (nI_pos' (by omega)) ((nI_ltI (by omega) (by decide)).mpr (show _ < 40 by omega)); rw [show Int32.toNatClampNeg _ = _ from hx.1]; rw [show Int32.toNatClampNeg (nI j30) = _ from qn_nI (by omega)])]) ih30
end
section
/-! THE CLASS: rows and texts, what is found and told -/
theorem qx_found (l : Launch) (G : qp_G) (f : Int32) (I : Nat → Nat → Int32) (J : Nat → Nat → Int64) (hf : 1 ≤ f ∧ f ≤ 5) {d : Nat} (hd : 1 ≤ d) : qp_Met l G d 14 [.ref 0, .int f] (qp_mk I J) 0 0 (qp_R8 (some (.int (-3))) (qp_up (qp_up I 0 10 f) 35 (Int32.toNatClampNeg f) ((I 35 (Int32.toNatClampNeg f)) + 1)) J) := by
  have hd1 : Nat.ble 1 d = true := Nat.ble_eq_true_of_le (Nat.le_trans (by decide) hd)
  refine qp_Met_of (by decide) (by rw [qp_r14.2]; rfl) [some (.ref 0), some (.int f)] (by rw [qp_r14.2]; rfl) ?_
  refine qp_run_E qp_ok14 5 (c' := (7, [some (.ref 0), some (.int f)], [.int 1, .int f], qp_mk (qp_up I 0 10 f) J)) (by with_unfolding_all rfl) hd1 trivial ?_
  refine qp_br_E qp_ok14 (f := f < 1) (ct := (25, [some (.ref 0), some (.int f)], [], qp_mk (qp_up I 0 10 f) J)) (cf := (10, [some (.ref 0), some (.int f)], [], qp_mk (qp_up I 0 10 f) J)) (by with_unfolding_all rfl) (fun h1 => ?_) (fun h1 => ?_)
  · exfalso; grind
  · refine qp_run_E qp_ok14 2 (c' := (12, [some (.ref 0), some (.int f)], [.int 5, .int f], qp_mk (qp_up I 0 10 f) J)) (by with_unfolding_all rfl) hd1 trivial ?_
    refine qp_br_E qp_ok14 (f := 5 < f) (ct := (25, [some (.ref 0), some (.int f)], [], qp_mk (qp_up I 0 10 f) J)) (cf := (15, [some (.ref 0), some (.int f)], [], qp_mk (qp_up I 0 10 f) J)) (by with_unfolding_all rfl) (fun h2 => ?_) (fun h2 => ?_)
    · exfalso; grind
    · refine qp_run_E qp_ok14 9 (f := vp_in f 6 ∧ vp_in f 6 ∧ True) (c' := (27, [some (.ref 0), some (.int f)], [.int (-3)], qp_mk (qp_up (qp_up I 0 10 f) 35 (Int32.toNatClampNeg f) ((I 35 (Int32.toNatClampNeg f)) + 1)) J)) (by with_unfolding_all rfl) hd1 ⟨(qp_vin (c := 6) (by decide) (by grind) (by grind)), (qp_vin (c := 6) (by decide) (by grind) (by grind)), trivial⟩ ?_
      exact qp_retI_E qp_ok14 rfl qp_r14.1 ⟨rfl, rfl⟩ ⟨rfl, rfl⟩

theorem qx_tell (l : Launch) (G : qp_G) (v : Int32) (I : Nat → Nat → Int32) (J : Nat → Nat → Int64)  {d : Nat} (hd : 1 ≤ d) : qp_Met l G d 24 [.ref 0, .int v] (qp_mk I J) 0 0 (qp_R8 (some (.int 1)) (qp_up I 0 11 v) J) := by
  have hd1 : Nat.ble 1 d = true := Nat.ble_eq_true_of_le (Nat.le_trans (by decide) hd)
  refine qp_Met_of (by decide) (by rw [qp_r24.2]; rfl) [some (.ref 0), some (.int v)] (by rw [qp_r24.2]; rfl) ?_
  refine qp_run_E qp_ok24 4 (c' := (6, [some (.ref 0), some (.int v)], [.int 1], qp_mk (qp_up I 0 11 v) J)) (by with_unfolding_all rfl) hd1 trivial ?_
  exact qp_retI_E qp_ok24 rfl qp_r24.1 ⟨rfl, rfl⟩ ⟨rfl, rfl⟩

theorem qx_asked (l : Launch) (G : qp_G)  (I : Nat → Nat → Int32) (J : Nat → Nat → Int64)  {d : Nat} (hd : 1 ≤ d) : qp_Met l G d 135 [.ref 0] (qp_mk I J) 0 0 (qp_R8 (some (.int (I 0 11))) I J) := by
  have hd1 : Nat.ble 1 d = true := Nat.ble_eq_true_of_le (Nat.le_trans (by decide) hd)
  refine qp_Met_of (by decide) (by rw [qp_r135.2]; rfl) [some (.ref 0)] (by rw [qp_r135.2]; rfl) ?_
  refine qp_run_E qp_ok135 2 (c' := (4, [some (.ref 0)], [.int (I 0 11)], qp_mk I J)) (by with_unfolding_all rfl) hd1 trivial ?_
  exact qp_retI_E qp_ok135 rfl qp_r135.1 ⟨rfl, rfl⟩ ⟨rfl, rfl⟩

theorem qx_upper (l : Launch) (G : qp_G)  (I : Nat → Nat → Int32) (J : Nat → Nat → Int64)  {d : Nat} (hd : 1 ≤ d) : qp_Met l G d 136 [.ref 0] (qp_mk I J) 0 0 (qp_R8 (some (.long (J 0 12))) I J) := by
  have hd1 : Nat.ble 1 d = true := Nat.ble_eq_true_of_le (Nat.le_trans (by decide) hd)
  refine qp_Met_of (by decide) (by rw [qp_r136.2]; rfl) [some (.ref 0)] (by rw [qp_r136.2]; rfl) ?_
  refine qp_run_E qp_ok136 2 (c' := (4, [some (.ref 0)], [.long (J 0 12)], qp_mk I J)) (by with_unfolding_all rfl) hd1 trivial ?_
  exact qp_retL_E qp_ok136 rfl qp_r136.1 ⟨rfl, rfl⟩ ⟨rfl, rfl⟩

theorem qx_lower (l : Launch) (G : qp_G)  (I : Nat → Nat → Int32) (J : Nat → Nat → Int64)  {d : Nat} (hd : 1 ≤ d) : qp_Met l G d 137 [.ref 0] (qp_mk I J) 0 0 (qp_R8 (some (.long (J 0 13))) I J) := by
  have hd1 : Nat.ble 1 d = true := Nat.ble_eq_true_of_le (Nat.le_trans (by decide) hd)
  refine qp_Met_of (by decide) (by rw [qp_r137.2]; rfl) [some (.ref 0)] (by rw [qp_r137.2]; rfl) ?_
  refine qp_run_E qp_ok137 2 (c' := (4, [some (.ref 0)], [.long (J 0 13)], qp_mk I J)) (by with_unfolding_all rfl) hd1 trivial ?_
  exact qp_retL_E qp_ok137 rfl qp_r137.1 ⟨rfl, rfl⟩ ⟨rfl, rfl⟩

theorem qx_finding (l : Launch) (G : qp_G)  (I : Nat → Nat → Int32) (J : Nat → Nat → Int64)  {d : Nat} (hd : 1 ≤ d) : qp_Met l G d 142 [.ref 0] (qp_mk I J) 0 0 (qp_R8 (some (.int (I 0 10))) I J) := by
  have hd1 : Nat.ble 1 d = true := Nat.ble_eq_true_of_le (Nat.le_trans (by decide) hd)
  refine qp_Met_of (by decide) (by rw [qp_r142.2]; rfl) [some (.ref 0)] (by rw [qp_r142.2]; rfl) ?_
  refine qp_run_E qp_ok142 2 (c' := (4, [some (.ref 0)], [.int (I 0 10)], qp_mk I J)) (by with_unfolding_all rfl) hd1 trivial ?_
  exact qp_retI_E qp_ok142 rfl qp_r142.1 ⟨rfl, rfl⟩ ⟨rfl, rfl⟩

theorem qx_refB1 (l : Launch) (G : qp_G) (r : Int32) (I : Nat → Nat → Int32) (J : Nat → Nat → Int64) (hp : ¬ (0 ≤ r ∧ r < 6)) {d : Nat} (hd : 5 ≤ d) : qp_Met l G d 18 [.ref 0, .ref 1, .int r] (qp_mk I J) 0 0 (qp_R8 (some (.int (-1))) I J) := by
  have hd1 : Nat.ble 1 d = true := Nat.ble_eq_true_of_le (Nat.le_trans (by decide) hd)
  refine qp_Met_of (by decide) (by rw [qp_r18.2]; rfl) [some (.ref 0), some (.ref 1), some (.int r)] (by rw [qp_r18.2]; rfl) ?_
  refine qp_run_E qp_ok18 2 (c' := (2, [some (.ref 0), some (.ref 1), some (.int r)], [.int r, .ref 1], qp_mk I J)) (by with_unfolding_all rfl) hd1 trivial ?_
  refine qp_cV qp_ok18 (rest := []) (oj := 1) qp_f13 rfl rfl (qs_isNumber1 l G r I J  (Nat.le_refl 1)) rfl rfl rfl rfl (Nat.le_trans (by decide) hd) ?_
  refine qp_br_E qp_ok18 (f := ¬ (qp_b2 (0 ≤ r ∧ r < 6)) = 0) (ct := (10, [some (.ref 0), some (.ref 1), some (.int r)], [], qp_mk I J)) (cf := (8, [some (.ref 0), some (.ref 1), some (.int r)], [], qp_mk I J)) (by with_unfolding_all rfl) (fun h1 => ?_) (fun h1 => ?_)
  · have h1 := qp_b2_1.mp h1
    exfalso; grind
  · have h1 := qp_b2_0.mp (Classical.not_not.mp h1)
    refine qp_run_E qp_ok18 1 (c' := (9, [some (.ref 0), some (.ref 1), some (.int r)], [.int (-1)], qp_mk I J)) (by with_unfolding_all rfl) hd1 trivial ?_
    exact qp_retI_E qp_ok18 rfl qp_r18.1 ⟨rfl, rfl⟩ ⟨rfl, rfl⟩

theorem qx_refN1 (l : Launch) (G : qp_G) (r : Int32) (I : Nat → Nat → Int32) (J : Nat → Nat → Int64) (hp : (0 ≤ r ∧ r < 6)) (hn : I 2 (Int32.toNatClampNeg r) = -1) {d : Nat} (hd : 5 ≤ d) : qp_Met l G d 18 [.ref 0, .ref 1, .int r] (qp_mk I J) 0 0 (qp_R8 (some (.int (-3))) (qp_up (qp_up I 0 10 1) 35 1 ((I 35 1) + 1)) J) := by
  have hd1 : Nat.ble 1 d = true := Nat.ble_eq_true_of_le (Nat.le_trans (by decide) hd)
  refine qp_Met_of (by decide) (by rw [qp_r18.2]; rfl) [some (.ref 0), some (.ref 1), some (.int r)] (by rw [qp_r18.2]; rfl) ?_
  refine qp_run_E qp_ok18 2 (c' := (2, [some (.ref 0), some (.ref 1), some (.int r)], [.int r, .ref 1], qp_mk I J)) (by with_unfolding_all rfl) hd1 trivial ?_
  refine qp_cV qp_ok18 (rest := []) (oj := 1) qp_f13 rfl rfl (qs_isNumber1 l G r I J  (Nat.le_refl 1)) rfl rfl rfl rfl (Nat.le_trans (by decide) hd) ?_
  refine qp_br_E qp_ok18 (f := ¬ (qp_b2 (0 ≤ r ∧ r < 6)) = 0) (ct := (10, [some (.ref 0), some (.ref 1), some (.int r)], [], qp_mk I J)) (cf := (8, [some (.ref 0), some (.ref 1), some (.int r)], [], qp_mk I J)) (by with_unfolding_all rfl) (fun h1 => ?_) (fun h1 => ?_)
  · have h1 := qp_b2_1.mp h1
    refine qp_run_E qp_ok18 2 (c' := (12, [some (.ref 0), some (.ref 1), some (.int r)], [.int r, .ref 1], qp_mk I J)) (by with_unfolding_all rfl) hd1 trivial ?_
    refine qp_cV qp_ok18 (rest := []) (oj := 1) qp_f19 rfl rfl (qs_has1 l G r I J  (Nat.le_refl 3)) rfl rfl rfl rfl (Nat.le_trans (by decide) hd) ?_
    refine qp_br_E qp_ok18 (f := (qp_b2 ((0 ≤ r ∧ r < 6) ∧ ¬ (I 2 (Int32.toNatClampNeg r)) = -1)) = 0) (ct := (22, [some (.ref 0), some (.ref 1), some (.int r)], [], qp_mk I J)) (cf := (18, [some (.ref 0), some (.ref 1), some (.int r)], [], qp_mk I J)) (by with_unfolding_all rfl) (fun h2 => ?_) (fun h2 => ?_)
    · have h2 := qp_b2_0.mp h2
      refine qp_run_E qp_ok18 2 (c' := (24, [some (.ref 0), some (.ref 1), some (.int r)], [.int 1, .ref 0], qp_mk I J)) (by with_unfolding_all rfl) hd1 trivial ?_
      refine qp_cV qp_ok18 (rest := []) (oj := 0) qp_f14 rfl rfl (qx_found l G 1 I J (by decide) (Nat.le_refl 1)) rfl rfl rfl rfl (Nat.le_trans (by decide) hd) ?_
      exact qp_retI_E qp_ok18 rfl qp_r18.1 ⟨rfl, rfl⟩ ⟨rfl, rfl⟩
    · have h2 := qp_b2_1.mp h2
      exfalso; grind
  · have h1 := qp_b2_0.mp (Classical.not_not.mp h1)
    exfalso; grind

theorem qx_refF1 (l : Launch) (G : qp_G) (r : Int32) (I : Nat → Nat → Int32) (J : Nat → Nat → Int64) (hp : (0 ≤ r ∧ r < 6)) (hn : ¬ I 2 (Int32.toNatClampNeg r) = -1) {d : Nat} (hd : 5 ≤ d) : qp_Met l G d 18 [.ref 0, .ref 1, .int r] (qp_mk I J) 0 0 (qp_R8 (some (.int 0)) I J) := by
  have hd1 : Nat.ble 1 d = true := Nat.ble_eq_true_of_le (Nat.le_trans (by decide) hd)
  refine qp_Met_of (by decide) (by rw [qp_r18.2]; rfl) [some (.ref 0), some (.ref 1), some (.int r)] (by rw [qp_r18.2]; rfl) ?_
  refine qp_run_E qp_ok18 2 (c' := (2, [some (.ref 0), some (.ref 1), some (.int r)], [.int r, .ref 1], qp_mk I J)) (by with_unfolding_all rfl) hd1 trivial ?_
  refine qp_cV qp_ok18 (rest := []) (oj := 1) qp_f13 rfl rfl (qs_isNumber1 l G r I J  (Nat.le_refl 1)) rfl rfl rfl rfl (Nat.le_trans (by decide) hd) ?_
  refine qp_br_E qp_ok18 (f := ¬ (qp_b2 (0 ≤ r ∧ r < 6)) = 0) (ct := (10, [some (.ref 0), some (.ref 1), some (.int r)], [], qp_mk I J)) (cf := (8, [some (.ref 0), some (.ref 1), some (.int r)], [], qp_mk I J)) (by with_unfolding_all rfl) (fun h1 => ?_) (fun h1 => ?_)
  · have h1 := qp_b2_1.mp h1
    refine qp_run_E qp_ok18 2 (c' := (12, [some (.ref 0), some (.ref 1), some (.int r)], [.int r, .ref 1], qp_mk I J)) (by with_unfolding_all rfl) hd1 trivial ?_
    refine qp_cV qp_ok18 (rest := []) (oj := 1) qp_f19 rfl rfl (qs_has1 l G r I J  (Nat.le_refl 3)) rfl rfl rfl rfl (Nat.le_trans (by decide) hd) ?_
    refine qp_br_E qp_ok18 (f := (qp_b2 ((0 ≤ r ∧ r < 6) ∧ ¬ (I 2 (Int32.toNatClampNeg r)) = -1)) = 0) (ct := (22, [some (.ref 0), some (.ref 1), some (.int r)], [], qp_mk I J)) (cf := (18, [some (.ref 0), some (.ref 1), some (.int r)], [], qp_mk I J)) (by with_unfolding_all rfl) (fun h2 => ?_) (fun h2 => ?_)
    · have h2 := qp_b2_0.mp h2
      exfalso; grind
    · have h2 := qp_b2_1.mp h2
      refine qp_run_E qp_ok18 2 (c' := (27, [some (.ref 0), some (.ref 1), some (.int r)], [.int 0], qp_mk I J)) (by with_unfolding_all rfl) hd1 trivial ?_
      exact qp_retI_E qp_ok18 rfl qp_r18.1 ⟨rfl, rfl⟩ ⟨rfl, rfl⟩
  · have h1 := qp_b2_0.mp (Classical.not_not.mp h1)
    exfalso; grind

theorem qx_refB4 (l : Launch) (G : qp_G) (r : Int32) (I : Nat → Nat → Int32) (J : Nat → Nat → Int64) (hp : ¬ (0 ≤ r ∧ r < 4)) {d : Nat} (hd : 5 ≤ d) : qp_Met l G d 18 [.ref 0, .ref 4, .int r] (qp_mk I J) 0 0 (qp_R8 (some (.int (-1))) I J) := by
  have hd1 : Nat.ble 1 d = true := Nat.ble_eq_true_of_le (Nat.le_trans (by decide) hd)
  refine qp_Met_of (by decide) (by rw [qp_r18.2]; rfl) [some (.ref 0), some (.ref 4), some (.int r)] (by rw [qp_r18.2]; rfl) ?_
  refine qp_run_E qp_ok18 2 (c' := (2, [some (.ref 0), some (.ref 4), some (.int r)], [.int r, .ref 4], qp_mk I J)) (by with_unfolding_all rfl) hd1 trivial ?_
  refine qp_cV qp_ok18 (rest := []) (oj := 1) qp_f13 rfl rfl (qs_isNumber4 l G r I J  (Nat.le_refl 1)) rfl rfl rfl rfl (Nat.le_trans (by decide) hd) ?_
  refine qp_br_E qp_ok18 (f := ¬ (qp_b2 (0 ≤ r ∧ r < 4)) = 0) (ct := (10, [some (.ref 0), some (.ref 4), some (.int r)], [], qp_mk I J)) (cf := (8, [some (.ref 0), some (.ref 4), some (.int r)], [], qp_mk I J)) (by with_unfolding_all rfl) (fun h1 => ?_) (fun h1 => ?_)
  · have h1 := qp_b2_1.mp h1
    exfalso; grind
  · have h1 := qp_b2_0.mp (Classical.not_not.mp h1)
    refine qp_run_E qp_ok18 1 (c' := (9, [some (.ref 0), some (.ref 4), some (.int r)], [.int (-1)], qp_mk I J)) (by with_unfolding_all rfl) hd1 trivial ?_
    exact qp_retI_E qp_ok18 rfl qp_r18.1 ⟨rfl, rfl⟩ ⟨rfl, rfl⟩

theorem qx_refN4 (l : Launch) (G : qp_G) (r : Int32) (I : Nat → Nat → Int32) (J : Nat → Nat → Int64) (hp : (0 ≤ r ∧ r < 4)) (hn : I 5 (Int32.toNatClampNeg r) = -1) {d : Nat} (hd : 5 ≤ d) : qp_Met l G d 18 [.ref 0, .ref 4, .int r] (qp_mk I J) 0 0 (qp_R8 (some (.int (-3))) (qp_up (qp_up I 0 10 1) 35 1 ((I 35 1) + 1)) J) := by
  have hd1 : Nat.ble 1 d = true := Nat.ble_eq_true_of_le (Nat.le_trans (by decide) hd)
  refine qp_Met_of (by decide) (by rw [qp_r18.2]; rfl) [some (.ref 0), some (.ref 4), some (.int r)] (by rw [qp_r18.2]; rfl) ?_
  refine qp_run_E qp_ok18 2 (c' := (2, [some (.ref 0), some (.ref 4), some (.int r)], [.int r, .ref 4], qp_mk I J)) (by with_unfolding_all rfl) hd1 trivial ?_
  refine qp_cV qp_ok18 (rest := []) (oj := 1) qp_f13 rfl rfl (qs_isNumber4 l G r I J  (Nat.le_refl 1)) rfl rfl rfl rfl (Nat.le_trans (by decide) hd) ?_
  refine qp_br_E qp_ok18 (f := ¬ (qp_b2 (0 ≤ r ∧ r < 4)) = 0) (ct := (10, [some (.ref 0), some (.ref 4), some (.int r)], [], qp_mk I J)) (cf := (8, [some (.ref 0), some (.ref 4), some (.int r)], [], qp_mk I J)) (by with_unfolding_all rfl) (fun h1 => ?_) (fun h1 => ?_)
  · have h1 := qp_b2_1.mp h1
    refine qp_run_E qp_ok18 2 (c' := (12, [some (.ref 0), some (.ref 4), some (.int r)], [.int r, .ref 4], qp_mk I J)) (by with_unfolding_all rfl) hd1 trivial ?_
    refine qp_cV qp_ok18 (rest := []) (oj := 1) qp_f19 rfl rfl (qs_has4 l G r I J  (Nat.le_refl 3)) rfl rfl rfl rfl (Nat.le_trans (by decide) hd) ?_
    refine qp_br_E qp_ok18 (f := (qp_b2 ((0 ≤ r ∧ r < 4) ∧ ¬ (I 5 (Int32.toNatClampNeg r)) = -1)) = 0) (ct := (22, [some (.ref 0), some (.ref 4), some (.int r)], [], qp_mk I J)) (cf := (18, [some (.ref 0), some (.ref 4), some (.int r)], [], qp_mk I J)) (by with_unfolding_all rfl) (fun h2 => ?_) (fun h2 => ?_)
    · have h2 := qp_b2_0.mp h2
      refine qp_run_E qp_ok18 2 (c' := (24, [some (.ref 0), some (.ref 4), some (.int r)], [.int 1, .ref 0], qp_mk I J)) (by with_unfolding_all rfl) hd1 trivial ?_
      refine qp_cV qp_ok18 (rest := []) (oj := 0) qp_f14 rfl rfl (qx_found l G 1 I J (by decide) (Nat.le_refl 1)) rfl rfl rfl rfl (Nat.le_trans (by decide) hd) ?_
      exact qp_retI_E qp_ok18 rfl qp_r18.1 ⟨rfl, rfl⟩ ⟨rfl, rfl⟩
    · have h2 := qp_b2_1.mp h2
      exfalso; grind
  · have h1 := qp_b2_0.mp (Classical.not_not.mp h1)
    exfalso; grind

theorem qx_refF4 (l : Launch) (G : qp_G) (r : Int32) (I : Nat → Nat → Int32) (J : Nat → Nat → Int64) (hp : (0 ≤ r ∧ r < 4)) (hn : ¬ I 5 (Int32.toNatClampNeg r) = -1) {d : Nat} (hd : 5 ≤ d) : qp_Met l G d 18 [.ref 0, .ref 4, .int r] (qp_mk I J) 0 0 (qp_R8 (some (.int 0)) I J) := by
  have hd1 : Nat.ble 1 d = true := Nat.ble_eq_true_of_le (Nat.le_trans (by decide) hd)
  refine qp_Met_of (by decide) (by rw [qp_r18.2]; rfl) [some (.ref 0), some (.ref 4), some (.int r)] (by rw [qp_r18.2]; rfl) ?_
  refine qp_run_E qp_ok18 2 (c' := (2, [some (.ref 0), some (.ref 4), some (.int r)], [.int r, .ref 4], qp_mk I J)) (by with_unfolding_all rfl) hd1 trivial ?_
  refine qp_cV qp_ok18 (rest := []) (oj := 1) qp_f13 rfl rfl (qs_isNumber4 l G r I J  (Nat.le_refl 1)) rfl rfl rfl rfl (Nat.le_trans (by decide) hd) ?_
  refine qp_br_E qp_ok18 (f := ¬ (qp_b2 (0 ≤ r ∧ r < 4)) = 0) (ct := (10, [some (.ref 0), some (.ref 4), some (.int r)], [], qp_mk I J)) (cf := (8, [some (.ref 0), some (.ref 4), some (.int r)], [], qp_mk I J)) (by with_unfolding_all rfl) (fun h1 => ?_) (fun h1 => ?_)
  · have h1 := qp_b2_1.mp h1
    refine qp_run_E qp_ok18 2 (c' := (12, [some (.ref 0), some (.ref 4), some (.int r)], [.int r, .ref 4], qp_mk I J)) (by with_unfolding_all rfl) hd1 trivial ?_
    refine qp_cV qp_ok18 (rest := []) (oj := 1) qp_f19 rfl rfl (qs_has4 l G r I J  (Nat.le_refl 3)) rfl rfl rfl rfl (Nat.le_trans (by decide) hd) ?_
    refine qp_br_E qp_ok18 (f := (qp_b2 ((0 ≤ r ∧ r < 4) ∧ ¬ (I 5 (Int32.toNatClampNeg r)) = -1)) = 0) (ct := (22, [some (.ref 0), some (.ref 4), some (.int r)], [], qp_mk I J)) (cf := (18, [some (.ref 0), some (.ref 4), some (.int r)], [], qp_mk I J)) (by with_unfolding_all rfl) (fun h2 => ?_) (fun h2 => ?_)
    · have h2 := qp_b2_0.mp h2
      exfalso; grind
    · have h2 := qp_b2_1.mp h2
      refine qp_run_E qp_ok18 2 (c' := (27, [some (.ref 0), some (.ref 4), some (.int r)], [.int 0], qp_mk I J)) (by with_unfolding_all rfl) hd1 trivial ?_
      exact qp_retI_E qp_ok18 rfl qp_r18.1 ⟨rfl, rfl⟩ ⟨rfl, rfl⟩
  · have h1 := qp_b2_0.mp (Classical.not_not.mp h1)
    exfalso; grind

theorem qx_refB7 (l : Launch) (G : qp_G) (r : Int32) (I : Nat → Nat → Int32) (J : Nat → Nat → Int64) (hp : ¬ (0 ≤ r ∧ r < 3)) {d : Nat} (hd : 5 ≤ d) : qp_Met l G d 18 [.ref 0, .ref 7, .int r] (qp_mk I J) 0 0 (qp_R8 (some (.int (-1))) I J) := by
  have hd1 : Nat.ble 1 d = true := Nat.ble_eq_true_of_le (Nat.le_trans (by decide) hd)
  refine qp_Met_of (by decide) (by rw [qp_r18.2]; rfl) [some (.ref 0), some (.ref 7), some (.int r)] (by rw [qp_r18.2]; rfl) ?_
  refine qp_run_E qp_ok18 2 (c' := (2, [some (.ref 0), some (.ref 7), some (.int r)], [.int r, .ref 7], qp_mk I J)) (by with_unfolding_all rfl) hd1 trivial ?_
  refine qp_cV qp_ok18 (rest := []) (oj := 1) qp_f13 rfl rfl (qs_isNumber7 l G r I J  (Nat.le_refl 1)) rfl rfl rfl rfl (Nat.le_trans (by decide) hd) ?_
  refine qp_br_E qp_ok18 (f := ¬ (qp_b2 (0 ≤ r ∧ r < 3)) = 0) (ct := (10, [some (.ref 0), some (.ref 7), some (.int r)], [], qp_mk I J)) (cf := (8, [some (.ref 0), some (.ref 7), some (.int r)], [], qp_mk I J)) (by with_unfolding_all rfl) (fun h1 => ?_) (fun h1 => ?_)
  · have h1 := qp_b2_1.mp h1
    exfalso; grind
  · have h1 := qp_b2_0.mp (Classical.not_not.mp h1)
    refine qp_run_E qp_ok18 1 (c' := (9, [some (.ref 0), some (.ref 7), some (.int r)], [.int (-1)], qp_mk I J)) (by with_unfolding_all rfl) hd1 trivial ?_
    exact qp_retI_E qp_ok18 rfl qp_r18.1 ⟨rfl, rfl⟩ ⟨rfl, rfl⟩

theorem qx_refN7 (l : Launch) (G : qp_G) (r : Int32) (I : Nat → Nat → Int32) (J : Nat → Nat → Int64) (hp : (0 ≤ r ∧ r < 3)) (hn : I 8 (Int32.toNatClampNeg r) = -1) {d : Nat} (hd : 5 ≤ d) : qp_Met l G d 18 [.ref 0, .ref 7, .int r] (qp_mk I J) 0 0 (qp_R8 (some (.int (-3))) (qp_up (qp_up I 0 10 1) 35 1 ((I 35 1) + 1)) J) := by
  have hd1 : Nat.ble 1 d = true := Nat.ble_eq_true_of_le (Nat.le_trans (by decide) hd)
  refine qp_Met_of (by decide) (by rw [qp_r18.2]; rfl) [some (.ref 0), some (.ref 7), some (.int r)] (by rw [qp_r18.2]; rfl) ?_
  refine qp_run_E qp_ok18 2 (c' := (2, [some (.ref 0), some (.ref 7), some (.int r)], [.int r, .ref 7], qp_mk I J)) (by with_unfolding_all rfl) hd1 trivial ?_
  refine qp_cV qp_ok18 (rest := []) (oj := 1) qp_f13 rfl rfl (qs_isNumber7 l G r I J  (Nat.le_refl 1)) rfl rfl rfl rfl (Nat.le_trans (by decide) hd) ?_
  refine qp_br_E qp_ok18 (f := ¬ (qp_b2 (0 ≤ r ∧ r < 3)) = 0) (ct := (10, [some (.ref 0), some (.ref 7), some (.int r)], [], qp_mk I J)) (cf := (8, [some (.ref 0), some (.ref 7), some (.int r)], [], qp_mk I J)) (by with_unfolding_all rfl) (fun h1 => ?_) (fun h1 => ?_)
  · have h1 := qp_b2_1.mp h1
    refine qp_run_E qp_ok18 2 (c' := (12, [some (.ref 0), some (.ref 7), some (.int r)], [.int r, .ref 7], qp_mk I J)) (by with_unfolding_all rfl) hd1 trivial ?_
    refine qp_cV qp_ok18 (rest := []) (oj := 1) qp_f19 rfl rfl (qs_has7 l G r I J  (Nat.le_refl 3)) rfl rfl rfl rfl (Nat.le_trans (by decide) hd) ?_
    refine qp_br_E qp_ok18 (f := (qp_b2 ((0 ≤ r ∧ r < 3) ∧ ¬ (I 8 (Int32.toNatClampNeg r)) = -1)) = 0) (ct := (22, [some (.ref 0), some (.ref 7), some (.int r)], [], qp_mk I J)) (cf := (18, [some (.ref 0), some (.ref 7), some (.int r)], [], qp_mk I J)) (by with_unfolding_all rfl) (fun h2 => ?_) (fun h2 => ?_)
    · have h2 := qp_b2_0.mp h2
      refine qp_run_E qp_ok18 2 (c' := (24, [some (.ref 0), some (.ref 7), some (.int r)], [.int 1, .ref 0], qp_mk I J)) (by with_unfolding_all rfl) hd1 trivial ?_
      refine qp_cV qp_ok18 (rest := []) (oj := 0) qp_f14 rfl rfl (qx_found l G 1 I J (by decide) (Nat.le_refl 1)) rfl rfl rfl rfl (Nat.le_trans (by decide) hd) ?_
      exact qp_retI_E qp_ok18 rfl qp_r18.1 ⟨rfl, rfl⟩ ⟨rfl, rfl⟩
    · have h2 := qp_b2_1.mp h2
      exfalso; grind
  · have h1 := qp_b2_0.mp (Classical.not_not.mp h1)
    exfalso; grind

theorem qx_refF7 (l : Launch) (G : qp_G) (r : Int32) (I : Nat → Nat → Int32) (J : Nat → Nat → Int64) (hp : (0 ≤ r ∧ r < 3)) (hn : ¬ I 8 (Int32.toNatClampNeg r) = -1) {d : Nat} (hd : 5 ≤ d) : qp_Met l G d 18 [.ref 0, .ref 7, .int r] (qp_mk I J) 0 0 (qp_R8 (some (.int 0)) I J) := by
  have hd1 : Nat.ble 1 d = true := Nat.ble_eq_true_of_le (Nat.le_trans (by decide) hd)
  refine qp_Met_of (by decide) (by rw [qp_r18.2]; rfl) [some (.ref 0), some (.ref 7), some (.int r)] (by rw [qp_r18.2]; rfl) ?_
  refine qp_run_E qp_ok18 2 (c' := (2, [some (.ref 0), some (.ref 7), some (.int r)], [.int r, .ref 7], qp_mk I J)) (by with_unfolding_all rfl) hd1 trivial ?_
  refine qp_cV qp_ok18 (rest := []) (oj := 1) qp_f13 rfl rfl (qs_isNumber7 l G r I J  (Nat.le_refl 1)) rfl rfl rfl rfl (Nat.le_trans (by decide) hd) ?_
  refine qp_br_E qp_ok18 (f := ¬ (qp_b2 (0 ≤ r ∧ r < 3)) = 0) (ct := (10, [some (.ref 0), some (.ref 7), some (.int r)], [], qp_mk I J)) (cf := (8, [some (.ref 0), some (.ref 7), some (.int r)], [], qp_mk I J)) (by with_unfolding_all rfl) (fun h1 => ?_) (fun h1 => ?_)
  · have h1 := qp_b2_1.mp h1
    refine qp_run_E qp_ok18 2 (c' := (12, [some (.ref 0), some (.ref 7), some (.int r)], [.int r, .ref 7], qp_mk I J)) (by with_unfolding_all rfl) hd1 trivial ?_
    refine qp_cV qp_ok18 (rest := []) (oj := 1) qp_f19 rfl rfl (qs_has7 l G r I J  (Nat.le_refl 3)) rfl rfl rfl rfl (Nat.le_trans (by decide) hd) ?_
    refine qp_br_E qp_ok18 (f := (qp_b2 ((0 ≤ r ∧ r < 3) ∧ ¬ (I 8 (Int32.toNatClampNeg r)) = -1)) = 0) (ct := (22, [some (.ref 0), some (.ref 7), some (.int r)], [], qp_mk I J)) (cf := (18, [some (.ref 0), some (.ref 7), some (.int r)], [], qp_mk I J)) (by with_unfolding_all rfl) (fun h2 => ?_) (fun h2 => ?_)
    · have h2 := qp_b2_0.mp h2
      exfalso; grind
    · have h2 := qp_b2_1.mp h2
      refine qp_run_E qp_ok18 2 (c' := (27, [some (.ref 0), some (.ref 7), some (.int r)], [.int 0], qp_mk I J)) (by with_unfolding_all rfl) hd1 trivial ?_
      exact qp_retI_E qp_ok18 rfl qp_r18.1 ⟨rfl, rfl⟩ ⟨rfl, rfl⟩
  · have h1 := qp_b2_0.mp (Classical.not_not.mp h1)
    exfalso; grind

theorem qx_rplB1 (l : Launch) (G : qp_G) (r : Int32) (i : Int32) (I : Nat → Nat → Int32) (J : Nat → Nat → Int64) (hp : ¬ (0 ≤ r ∧ r < 6)) {d : Nat} (hd : 6 ≤ d) : qp_Met l G d 17 [.ref 0, .ref 1, .int r, .int i] (qp_mk I J) 0 0 (qp_R8 (some (.int (-1))) I J) := by
  have hd1 : Nat.ble 1 d = true := Nat.ble_eq_true_of_le (Nat.le_trans (by decide) hd)
  refine qp_Met_of (by decide) (by rw [qp_r17.2]; rfl) [some (.ref 0), some (.ref 1), some (.int r), some (.int i), none] (by rw [qp_r17.2]; rfl) ?_
  refine qp_run_E qp_ok17 3 (c' := (3, [some (.ref 0), some (.ref 1), some (.int r), some (.int i), none], [.int r, .ref 1, .ref 0], qp_mk I J)) (by with_unfolding_all rfl) hd1 trivial ?_
  refine qp_cV qp_ok17 (rest := []) (oj := 0) qp_f18 rfl rfl (qx_refB1 l G r I J (by first | assumption | grind) (Nat.le_refl 5)) rfl rfl rfl rfl (Nat.le_trans (by decide) hd) ?_
  refine qp_run_E qp_ok17 2 (c' := (10, [some (.ref 0), some (.ref 1), some (.int r), some (.int i), some (.int (-1))], [.int (-1)], qp_mk I J)) (by with_unfolding_all rfl) hd1 trivial ?_
  refine qp_br_E qp_ok17 (f := ((-1) : Int32) = 0) (cf := (13, [some (.ref 0), some (.ref 1), some (.int r), some (.int i), some (.int (-1))], [], qp_mk I J)) (by with_unfolding_all rfl) (fun h => absurd h (by decide)) (fun _ => ?_)
  refine qp_run_E qp_ok17 1 (c' := (15, [some (.ref 0), some (.ref 1), some (.int r), some (.int i), some (.int (-1))], [.int (-1)], qp_mk I J)) (by with_unfolding_all rfl) hd1 trivial ?_
  exact qp_retI_E qp_ok17 rfl qp_r17.1 ⟨rfl, rfl⟩ ⟨rfl, rfl⟩

theorem qx_rplN1 (l : Launch) (G : qp_G) (r : Int32) (i : Int32) (I : Nat → Nat → Int32) (J : Nat → Nat → Int64) (hp : (0 ≤ r ∧ r < 6)) (hn : I 2 (Int32.toNatClampNeg r) = -1) {d : Nat} (hd : 6 ≤ d) : qp_Met l G d 17 [.ref 0, .ref 1, .int r, .int i] (qp_mk I J) 0 0 (qp_R8 (some (.int (-3))) (qp_up (qp_up I 0 10 1) 35 1 ((I 35 1) + 1)) J) := by
  have hd1 : Nat.ble 1 d = true := Nat.ble_eq_true_of_le (Nat.le_trans (by decide) hd)
  refine qp_Met_of (by decide) (by rw [qp_r17.2]; rfl) [some (.ref 0), some (.ref 1), some (.int r), some (.int i), none] (by rw [qp_r17.2]; rfl) ?_
  refine qp_run_E qp_ok17 3 (c' := (3, [some (.ref 0), some (.ref 1), some (.int r), some (.int i), none], [.int r, .ref 1, .ref 0], qp_mk I J)) (by with_unfolding_all rfl) hd1 trivial ?_
  refine qp_cV qp_ok17 (rest := []) (oj := 0) qp_f18 rfl rfl (qx_refN1 l G r I J (by first | assumption | grind) (by first | assumption | grind) (Nat.le_refl 5)) rfl rfl rfl rfl (Nat.le_trans (by decide) hd) ?_
  refine qp_run_E qp_ok17 2 (c' := (10, [some (.ref 0), some (.ref 1), some (.int r), some (.int i), some (.int (-3))], [.int (-3)], qp_mk (qp_up (qp_up I 0 10 1) 35 1 ((I 35 1) + 1)) J)) (by with_unfolding_all rfl) hd1 trivial ?_
  refine qp_br_E qp_ok17 (f := ((-3) : Int32) = 0) (cf := (13, [some (.ref 0), some (.ref 1), some (.int r), some (.int i), some (.int (-3))], [], qp_mk (qp_up (qp_up I 0 10 1) 35 1 ((I 35 1) + 1)) J)) (by with_unfolding_all rfl) (fun h => absurd h (by decide)) (fun _ => ?_)
  refine qp_run_E qp_ok17 1 (c' := (15, [some (.ref 0), some (.ref 1), some (.int r), some (.int i), some (.int (-3))], [.int (-3)], qp_mk (qp_up (qp_up I 0 10 1) 35 1 ((I 35 1) + 1)) J)) (by with_unfolding_all rfl) hd1 trivial ?_
  exact qp_retI_E qp_ok17 rfl qp_r17.1 ⟨rfl, rfl⟩ ⟨rfl, rfl⟩

theorem qx_rplY1 (l : Launch) (G : qp_G) (r : Int32) (i : Int32) (I : Nat → Nat → Int32) (J : Nat → Nat → Int64) (hp : (0 ≤ r ∧ r < 6)) (hn : ¬ I 2 (Int32.toNatClampNeg r) = -1) (hi : ¬ (0 ≤ i ∧ i < I 2 (Int32.toNatClampNeg r))) {d : Nat} (hd : 6 ≤ d) : qp_Met l G d 17 [.ref 0, .ref 1, .int r, .int i] (qp_mk I J) 0 0 (qp_R8 (some (.int (-3))) (qp_up (qp_up I 0 10 2) 35 2 ((I 35 2) + 1)) J) := by
  have hd1 : Nat.ble 1 d = true := Nat.ble_eq_true_of_le (Nat.le_trans (by decide) hd)
  refine qp_Met_of (by decide) (by rw [qp_r17.2]; rfl) [some (.ref 0), some (.ref 1), some (.int r), some (.int i), none] (by rw [qp_r17.2]; rfl) ?_
  refine qp_run_E qp_ok17 3 (c' := (3, [some (.ref 0), some (.ref 1), some (.int r), some (.int i), none], [.int r, .ref 1, .ref 0], qp_mk I J)) (by with_unfolding_all rfl) hd1 trivial ?_
  refine qp_cV qp_ok17 (rest := []) (oj := 0) qp_f18 rfl rfl (qx_refF1 l G r I J (by first | assumption | grind) (by first | assumption | grind) (Nat.le_refl 5)) rfl rfl rfl rfl (Nat.le_trans (by decide) hd) ?_
  refine qp_run_E qp_ok17 2 (c' := (10, [some (.ref 0), some (.ref 1), some (.int r), some (.int i), some (.int 0)], [.int 0], qp_mk I J)) (by with_unfolding_all rfl) hd1 trivial ?_
  refine qp_br_E qp_ok17 (f := (0 : Int32) = 0) (ct := (16, [some (.ref 0), some (.ref 1), some (.int r), some (.int i), some (.int 0)], [], qp_mk I J)) (by with_unfolding_all rfl) (fun _ => ?_) (fun h => absurd (by decide) h)
  refine qp_run_E qp_ok17 3 (c' := (19, [some (.ref 0), some (.ref 1), some (.int r), some (.int i), some (.int 0)], [.int i, .int r, .ref 1], qp_mk I J)) (by with_unfolding_all rfl) hd1 trivial ?_
  refine qp_cV qp_ok17 (rest := []) (oj := 1) qp_f21 rfl rfl (qs_hasPlace1 l G r i I J  (Nat.le_refl 2)) rfl rfl rfl rfl (Nat.le_trans (by decide) hd) ?_
  refine qp_br_E qp_ok17 (f := (qp_b2 ((0 ≤ r ∧ r < 6) ∧ 0 ≤ i ∧ i < (I 2 (Int32.toNatClampNeg r)))) = 0) (ct := (29, [some (.ref 0), some (.ref 1), some (.int r), some (.int i), some (.int 0)], [], qp_mk I J)) (cf := (25, [some (.ref 0), some (.ref 1), some (.int r), some (.int i), some (.int 0)], [], qp_mk I J)) (by with_unfolding_all rfl) (fun h1 => ?_) (fun h1 => ?_)
  · have h1 := qp_b2_0.mp h1
    refine qp_run_E qp_ok17 2 (c' := (31, [some (.ref 0), some (.ref 1), some (.int r), some (.int i), some (.int 0)], [.int 2, .ref 0], qp_mk I J)) (by with_unfolding_all rfl) hd1 trivial ?_
    refine qp_cV qp_ok17 (rest := []) (oj := 0) qp_f14 rfl rfl (qx_found l G 2 I J (by decide) (Nat.le_refl 1)) rfl rfl rfl rfl (Nat.le_trans (by decide) hd) ?_
    exact qp_retI_E qp_ok17 rfl qp_r17.1 ⟨rfl, rfl⟩ ⟨rfl, rfl⟩
  · have h1 := qp_b2_1.mp h1
    exfalso; grind

theorem qx_rplF1 (l : Launch) (G : qp_G) (r : Int32) (i : Int32) (I : Nat → Nat → Int32) (J : Nat → Nat → Int64) (hp : (0 ≤ r ∧ r < 6)) (hn : ¬ I 2 (Int32.toNatClampNeg r) = -1) (hi : 0 ≤ i ∧ i < I 2 (Int32.toNatClampNeg r)) {d : Nat} (hd : 6 ≤ d) : qp_Met l G d 17 [.ref 0, .ref 1, .int r, .int i] (qp_mk I J) 0 0 (qp_R8 (some (.int 0)) I J) := by
  have hd1 : Nat.ble 1 d = true := Nat.ble_eq_true_of_le (Nat.le_trans (by decide) hd)
  refine qp_Met_of (by decide) (by rw [qp_r17.2]; rfl) [some (.ref 0), some (.ref 1), some (.int r), some (.int i), none] (by rw [qp_r17.2]; rfl) ?_
  refine qp_run_E qp_ok17 3 (c' := (3, [some (.ref 0), some (.ref 1), some (.int r), some (.int i), none], [.int r, .ref 1, .ref 0], qp_mk I J)) (by with_unfolding_all rfl) hd1 trivial ?_
  refine qp_cV qp_ok17 (rest := []) (oj := 0) qp_f18 rfl rfl (qx_refF1 l G r I J (by first | assumption | grind) (by first | assumption | grind) (Nat.le_refl 5)) rfl rfl rfl rfl (Nat.le_trans (by decide) hd) ?_
  refine qp_run_E qp_ok17 2 (c' := (10, [some (.ref 0), some (.ref 1), some (.int r), some (.int i), some (.int 0)], [.int 0], qp_mk I J)) (by with_unfolding_all rfl) hd1 trivial ?_
  refine qp_br_E qp_ok17 (f := (0 : Int32) = 0) (ct := (16, [some (.ref 0), some (.ref 1), some (.int r), some (.int i), some (.int 0)], [], qp_mk I J)) (by with_unfolding_all rfl) (fun _ => ?_) (fun h => absurd (by decide) h)
  refine qp_run_E qp_ok17 3 (c' := (19, [some (.ref 0), some (.ref 1), some (.int r), some (.int i), some (.int 0)], [.int i, .int r, .ref 1], qp_mk I J)) (by with_unfolding_all rfl) hd1 trivial ?_
  refine qp_cV qp_ok17 (rest := []) (oj := 1) qp_f21 rfl rfl (qs_hasPlace1 l G r i I J  (Nat.le_refl 2)) rfl rfl rfl rfl (Nat.le_trans (by decide) hd) ?_
  refine qp_br_E qp_ok17 (f := (qp_b2 ((0 ≤ r ∧ r < 6) ∧ 0 ≤ i ∧ i < (I 2 (Int32.toNatClampNeg r)))) = 0) (ct := (29, [some (.ref 0), some (.ref 1), some (.int r), some (.int i), some (.int 0)], [], qp_mk I J)) (cf := (25, [some (.ref 0), some (.ref 1), some (.int r), some (.int i), some (.int 0)], [], qp_mk I J)) (by with_unfolding_all rfl) (fun h1 => ?_) (fun h1 => ?_)
  · have h1 := qp_b2_0.mp h1
    exfalso; grind
  · have h1 := qp_b2_1.mp h1
    refine qp_run_E qp_ok17 2 (c' := (34, [some (.ref 0), some (.ref 1), some (.int r), some (.int i), some (.int 0)], [.int 0], qp_mk I J)) (by with_unfolding_all rfl) hd1 trivial ?_
    exact qp_retI_E qp_ok17 rfl qp_r17.1 ⟨rfl, rfl⟩ ⟨rfl, rfl⟩

theorem qx_rplB4 (l : Launch) (G : qp_G) (r : Int32) (i : Int32) (I : Nat → Nat → Int32) (J : Nat → Nat → Int64) (hp : ¬ (0 ≤ r ∧ r < 4)) {d : Nat} (hd : 6 ≤ d) : qp_Met l G d 17 [.ref 0, .ref 4, .int r, .int i] (qp_mk I J) 0 0 (qp_R8 (some (.int (-1))) I J) := by
  have hd1 : Nat.ble 1 d = true := Nat.ble_eq_true_of_le (Nat.le_trans (by decide) hd)
  refine qp_Met_of (by decide) (by rw [qp_r17.2]; rfl) [some (.ref 0), some (.ref 4), some (.int r), some (.int i), none] (by rw [qp_r17.2]; rfl) ?_
  refine qp_run_E qp_ok17 3 (c' := (3, [some (.ref 0), some (.ref 4), some (.int r), some (.int i), none], [.int r, .ref 4, .ref 0], qp_mk I J)) (by with_unfolding_all rfl) hd1 trivial ?_
  refine qp_cV qp_ok17 (rest := []) (oj := 0) qp_f18 rfl rfl (qx_refB4 l G r I J (by first | assumption | grind) (Nat.le_refl 5)) rfl rfl rfl rfl (Nat.le_trans (by decide) hd) ?_
  refine qp_run_E qp_ok17 2 (c' := (10, [some (.ref 0), some (.ref 4), some (.int r), some (.int i), some (.int (-1))], [.int (-1)], qp_mk I J)) (by with_unfolding_all rfl) hd1 trivial ?_
  refine qp_br_E qp_ok17 (f := ((-1) : Int32) = 0) (cf := (13, [some (.ref 0), some (.ref 4), some (.int r), some (.int i), some (.int (-1))], [], qp_mk I J)) (by with_unfolding_all rfl) (fun h => absurd h (by decide)) (fun _ => ?_)
  refine qp_run_E qp_ok17 1 (c' := (15, [some (.ref 0), some (.ref 4), some (.int r), some (.int i), some (.int (-1))], [.int (-1)], qp_mk I J)) (by with_unfolding_all rfl) hd1 trivial ?_
  exact qp_retI_E qp_ok17 rfl qp_r17.1 ⟨rfl, rfl⟩ ⟨rfl, rfl⟩

theorem qx_rplN4 (l : Launch) (G : qp_G) (r : Int32) (i : Int32) (I : Nat → Nat → Int32) (J : Nat → Nat → Int64) (hp : (0 ≤ r ∧ r < 4)) (hn : I 5 (Int32.toNatClampNeg r) = -1) {d : Nat} (hd : 6 ≤ d) : qp_Met l G d 17 [.ref 0, .ref 4, .int r, .int i] (qp_mk I J) 0 0 (qp_R8 (some (.int (-3))) (qp_up (qp_up I 0 10 1) 35 1 ((I 35 1) + 1)) J) := by
  have hd1 : Nat.ble 1 d = true := Nat.ble_eq_true_of_le (Nat.le_trans (by decide) hd)
  refine qp_Met_of (by decide) (by rw [qp_r17.2]; rfl) [some (.ref 0), some (.ref 4), some (.int r), some (.int i), none] (by rw [qp_r17.2]; rfl) ?_
  refine qp_run_E qp_ok17 3 (c' := (3, [some (.ref 0), some (.ref 4), some (.int r), some (.int i), none], [.int r, .ref 4, .ref 0], qp_mk I J)) (by with_unfolding_all rfl) hd1 trivial ?_
  refine qp_cV qp_ok17 (rest := []) (oj := 0) qp_f18 rfl rfl (qx_refN4 l G r I J (by first | assumption | grind) (by first | assumption | grind) (Nat.le_refl 5)) rfl rfl rfl rfl (Nat.le_trans (by decide) hd) ?_
  refine qp_run_E qp_ok17 2 (c' := (10, [some (.ref 0), some (.ref 4), some (.int r), some (.int i), some (.int (-3))], [.int (-3)], qp_mk (qp_up (qp_up I 0 10 1) 35 1 ((I 35 1) + 1)) J)) (by with_unfolding_all rfl) hd1 trivial ?_
  refine qp_br_E qp_ok17 (f := ((-3) : Int32) = 0) (cf := (13, [some (.ref 0), some (.ref 4), some (.int r), some (.int i), some (.int (-3))], [], qp_mk (qp_up (qp_up I 0 10 1) 35 1 ((I 35 1) + 1)) J)) (by with_unfolding_all rfl) (fun h => absurd h (by decide)) (fun _ => ?_)
  refine qp_run_E qp_ok17 1 (c' := (15, [some (.ref 0), some (.ref 4), some (.int r), some (.int i), some (.int (-3))], [.int (-3)], qp_mk (qp_up (qp_up I 0 10 1) 35 1 ((I 35 1) + 1)) J)) (by with_unfolding_all rfl) hd1 trivial ?_
  exact qp_retI_E qp_ok17 rfl qp_r17.1 ⟨rfl, rfl⟩ ⟨rfl, rfl⟩

theorem qx_rplY4 (l : Launch) (G : qp_G) (r : Int32) (i : Int32) (I : Nat → Nat → Int32) (J : Nat → Nat → Int64) (hp : (0 ≤ r ∧ r < 4)) (hn : ¬ I 5 (Int32.toNatClampNeg r) = -1) (hi : ¬ (0 ≤ i ∧ i < I 5 (Int32.toNatClampNeg r))) {d : Nat} (hd : 6 ≤ d) : qp_Met l G d 17 [.ref 0, .ref 4, .int r, .int i] (qp_mk I J) 0 0 (qp_R8 (some (.int (-3))) (qp_up (qp_up I 0 10 2) 35 2 ((I 35 2) + 1)) J) := by
  have hd1 : Nat.ble 1 d = true := Nat.ble_eq_true_of_le (Nat.le_trans (by decide) hd)
  refine qp_Met_of (by decide) (by rw [qp_r17.2]; rfl) [some (.ref 0), some (.ref 4), some (.int r), some (.int i), none] (by rw [qp_r17.2]; rfl) ?_
  refine qp_run_E qp_ok17 3 (c' := (3, [some (.ref 0), some (.ref 4), some (.int r), some (.int i), none], [.int r, .ref 4, .ref 0], qp_mk I J)) (by with_unfolding_all rfl) hd1 trivial ?_
  refine qp_cV qp_ok17 (rest := []) (oj := 0) qp_f18 rfl rfl (qx_refF4 l G r I J (by first | assumption | grind) (by first | assumption | grind) (Nat.le_refl 5)) rfl rfl rfl rfl (Nat.le_trans (by decide) hd) ?_
  refine qp_run_E qp_ok17 2 (c' := (10, [some (.ref 0), some (.ref 4), some (.int r), some (.int i), some (.int 0)], [.int 0], qp_mk I J)) (by with_unfolding_all rfl) hd1 trivial ?_
  refine qp_br_E qp_ok17 (f := (0 : Int32) = 0) (ct := (16, [some (.ref 0), some (.ref 4), some (.int r), some (.int i), some (.int 0)], [], qp_mk I J)) (by with_unfolding_all rfl) (fun _ => ?_) (fun h => absurd (by decide) h)
  refine qp_run_E qp_ok17 3 (c' := (19, [some (.ref 0), some (.ref 4), some (.int r), some (.int i), some (.int 0)], [.int i, .int r, .ref 4], qp_mk I J)) (by with_unfolding_all rfl) hd1 trivial ?_
  refine qp_cV qp_ok17 (rest := []) (oj := 1) qp_f21 rfl rfl (qs_hasPlace4 l G r i I J  (Nat.le_refl 2)) rfl rfl rfl rfl (Nat.le_trans (by decide) hd) ?_
  refine qp_br_E qp_ok17 (f := (qp_b2 ((0 ≤ r ∧ r < 4) ∧ 0 ≤ i ∧ i < (I 5 (Int32.toNatClampNeg r)))) = 0) (ct := (29, [some (.ref 0), some (.ref 4), some (.int r), some (.int i), some (.int 0)], [], qp_mk I J)) (cf := (25, [some (.ref 0), some (.ref 4), some (.int r), some (.int i), some (.int 0)], [], qp_mk I J)) (by with_unfolding_all rfl) (fun h1 => ?_) (fun h1 => ?_)
  · have h1 := qp_b2_0.mp h1
    refine qp_run_E qp_ok17 2 (c' := (31, [some (.ref 0), some (.ref 4), some (.int r), some (.int i), some (.int 0)], [.int 2, .ref 0], qp_mk I J)) (by with_unfolding_all rfl) hd1 trivial ?_
    refine qp_cV qp_ok17 (rest := []) (oj := 0) qp_f14 rfl rfl (qx_found l G 2 I J (by decide) (Nat.le_refl 1)) rfl rfl rfl rfl (Nat.le_trans (by decide) hd) ?_
    exact qp_retI_E qp_ok17 rfl qp_r17.1 ⟨rfl, rfl⟩ ⟨rfl, rfl⟩
  · have h1 := qp_b2_1.mp h1
    exfalso; grind

theorem qx_rplF4 (l : Launch) (G : qp_G) (r : Int32) (i : Int32) (I : Nat → Nat → Int32) (J : Nat → Nat → Int64) (hp : (0 ≤ r ∧ r < 4)) (hn : ¬ I 5 (Int32.toNatClampNeg r) = -1) (hi : 0 ≤ i ∧ i < I 5 (Int32.toNatClampNeg r)) {d : Nat} (hd : 6 ≤ d) : qp_Met l G d 17 [.ref 0, .ref 4, .int r, .int i] (qp_mk I J) 0 0 (qp_R8 (some (.int 0)) I J) := by
  have hd1 : Nat.ble 1 d = true := Nat.ble_eq_true_of_le (Nat.le_trans (by decide) hd)
  refine qp_Met_of (by decide) (by rw [qp_r17.2]; rfl) [some (.ref 0), some (.ref 4), some (.int r), some (.int i), none] (by rw [qp_r17.2]; rfl) ?_
  refine qp_run_E qp_ok17 3 (c' := (3, [some (.ref 0), some (.ref 4), some (.int r), some (.int i), none], [.int r, .ref 4, .ref 0], qp_mk I J)) (by with_unfolding_all rfl) hd1 trivial ?_
  refine qp_cV qp_ok17 (rest := []) (oj := 0) qp_f18 rfl rfl (qx_refF4 l G r I J (by first | assumption | grind) (by first | assumption | grind) (Nat.le_refl 5)) rfl rfl rfl rfl (Nat.le_trans (by decide) hd) ?_
  refine qp_run_E qp_ok17 2 (c' := (10, [some (.ref 0), some (.ref 4), some (.int r), some (.int i), some (.int 0)], [.int 0], qp_mk I J)) (by with_unfolding_all rfl) hd1 trivial ?_
  refine qp_br_E qp_ok17 (f := (0 : Int32) = 0) (ct := (16, [some (.ref 0), some (.ref 4), some (.int r), some (.int i), some (.int 0)], [], qp_mk I J)) (by with_unfolding_all rfl) (fun _ => ?_) (fun h => absurd (by decide) h)
  refine qp_run_E qp_ok17 3 (c' := (19, [some (.ref 0), some (.ref 4), some (.int r), some (.int i), some (.int 0)], [.int i, .int r, .ref 4], qp_mk I J)) (by with_unfolding_all rfl) hd1 trivial ?_
  refine qp_cV qp_ok17 (rest := []) (oj := 1) qp_f21 rfl rfl (qs_hasPlace4 l G r i I J  (Nat.le_refl 2)) rfl rfl rfl rfl (Nat.le_trans (by decide) hd) ?_
  refine qp_br_E qp_ok17 (f := (qp_b2 ((0 ≤ r ∧ r < 4) ∧ 0 ≤ i ∧ i < (I 5 (Int32.toNatClampNeg r)))) = 0) (ct := (29, [some (.ref 0), some (.ref 4), some (.int r), some (.int i), some (.int 0)], [], qp_mk I J)) (cf := (25, [some (.ref 0), some (.ref 4), some (.int r), some (.int i), some (.int 0)], [], qp_mk I J)) (by with_unfolding_all rfl) (fun h1 => ?_) (fun h1 => ?_)
  · have h1 := qp_b2_0.mp h1
    exfalso; grind
  · have h1 := qp_b2_1.mp h1
    refine qp_run_E qp_ok17 2 (c' := (34, [some (.ref 0), some (.ref 4), some (.int r), some (.int i), some (.int 0)], [.int 0], qp_mk I J)) (by with_unfolding_all rfl) hd1 trivial ?_
    exact qp_retI_E qp_ok17 rfl qp_r17.1 ⟨rfl, rfl⟩ ⟨rfl, rfl⟩

theorem qx_anewB1 (l : Launch) (G : qp_G) (r : Int32) (n : Int32) (v : Int32) (I : Nat → Nat → Int32) (J : Nat → Nat → Int64) (hk1 : qs_ok 1 2 6 40 I) (hp : ¬ ((0 ≤ r ∧ r < 6) ∧ n ≤ 40)) {d : Nat} (hd : 5 ≤ d) : qp_Met l G d 12 [.ref 0, .ref 1, .int r, .int n, .int v] (qp_mk I J) 0 0 (qp_R8 (some (.int (-1))) I J) := by
  have hd1 : Nat.ble 1 d = true := Nat.ble_eq_true_of_le (Nat.le_trans (by decide) hd)
  refine qp_Met_of (by decide) (by rw [qp_r12.2]; rfl) [some (.ref 0), some (.ref 1), some (.int r), some (.int n), some (.int v)] (by rw [qp_r12.2]; rfl) ?_
  refine qp_run_E qp_ok12 2 (c' := (2, [some (.ref 0), some (.ref 1), some (.int r), some (.int n), some (.int v)], [.int r, .ref 1], qp_mk I J)) (by with_unfolding_all rfl) hd1 trivial ?_
  refine qp_cV qp_ok12 (rest := []) (oj := 1) qp_f13 rfl rfl (qs_isNumber1 l G r I J  (Nat.le_refl 1)) rfl rfl rfl rfl (Nat.le_trans (by decide) hd) ?_
  refine qp_br_E qp_ok12 (f := (qp_b2 (0 ≤ r ∧ r < 6)) = 0) (ct := (16, [some (.ref 0), some (.ref 1), some (.int r), some (.int n), some (.int v)], [], qp_mk I J)) (cf := (8, [some (.ref 0), some (.ref 1), some (.int r), some (.int n), some (.int v)], [], qp_mk I J)) (by with_unfolding_all rfl) (fun h1 => ?_) (fun h1 => ?_)
  · have h1 := qp_b2_0.mp h1
    refine qp_run_E qp_ok12 1 (c' := (17, [some (.ref 0), some (.ref 1), some (.int r), some (.int n), some (.int v)], [.int (-1)], qp_mk I J)) (by with_unfolding_all rfl) hd1 trivial ?_
    exact qp_retI_E qp_ok12 rfl qp_r12.1 ⟨rfl, rfl⟩ ⟨rfl, rfl⟩
  · have h1 := qp_b2_1.mp h1
    refine qp_run_E qp_ok12 3 (c' := (13, [some (.ref 0), some (.ref 1), some (.int r), some (.int n), some (.int v)], [.int (I 1 0), .int n], qp_mk I J)) (by with_unfolding_all rfl) hd1 trivial ?_
    refine qp_br_E qp_ok12 (f := n ≤ (I 1 0)) (ct := (18, [some (.ref 0), some (.ref 1), some (.int r), some (.int n), some (.int v)], [], qp_mk I J)) (cf := (16, [some (.ref 0), some (.ref 1), some (.int r), some (.int n), some (.int v)], [], qp_mk I J)) (by with_unfolding_all rfl) (fun h2 => ?_) (fun h2 => ?_)
    · exfalso; have := hk1.1; grind
    · refine qp_run_E qp_ok12 1 (c' := (17, [some (.ref 0), some (.ref 1), some (.int r), some (.int n), some (.int v)], [.int (-1)], qp_mk I J)) (by with_unfolding_all rfl) hd1 trivial ?_
      exact qp_retI_E qp_ok12 rfl qp_r12.1 ⟨rfl, rfl⟩ ⟨rfl, rfl⟩

theorem qx_anewS1 (l : Launch) (G : qp_G) (r : Int32) (n : Int32) (v : Int32) (I : Nat → Nat → Int32) (J : Nat → Nat → Int64) (hk1 : qs_ok 1 2 6 40 I) (hp : (0 ≤ r ∧ r < 6) ∧ n < 0) {d : Nat} (hd : 5 ≤ d) : qp_Met l G d 12 [.ref 0, .ref 1, .int r, .int n, .int v] (qp_mk I J) 0 0 (qp_R8 (some (.int (-3))) (qp_up (qp_up I 0 10 5) 35 5 ((I 35 5) + 1)) J) := by
  have hd1 : Nat.ble 1 d = true := Nat.ble_eq_true_of_le (Nat.le_trans (by decide) hd)
  refine qp_Met_of (by decide) (by rw [qp_r12.2]; rfl) [some (.ref 0), some (.ref 1), some (.int r), some (.int n), some (.int v)] (by rw [qp_r12.2]; rfl) ?_
  refine qp_run_E qp_ok12 2 (c' := (2, [some (.ref 0), some (.ref 1), some (.int r), some (.int n), some (.int v)], [.int r, .ref 1], qp_mk I J)) (by with_unfolding_all rfl) hd1 trivial ?_
  refine qp_cV qp_ok12 (rest := []) (oj := 1) qp_f13 rfl rfl (qs_isNumber1 l G r I J  (Nat.le_refl 1)) rfl rfl rfl rfl (Nat.le_trans (by decide) hd) ?_
  refine qp_br_E qp_ok12 (f := (qp_b2 (0 ≤ r ∧ r < 6)) = 0) (ct := (16, [some (.ref 0), some (.ref 1), some (.int r), some (.int n), some (.int v)], [], qp_mk I J)) (cf := (8, [some (.ref 0), some (.ref 1), some (.int r), some (.int n), some (.int v)], [], qp_mk I J)) (by with_unfolding_all rfl) (fun h1 => ?_) (fun h1 => ?_)
  · have h1 := qp_b2_0.mp h1
    exfalso; grind
  · have h1 := qp_b2_1.mp h1
    refine qp_run_E qp_ok12 3 (c' := (13, [some (.ref 0), some (.ref 1), some (.int r), some (.int n), some (.int v)], [.int (I 1 0), .int n], qp_mk I J)) (by with_unfolding_all rfl) hd1 trivial ?_
    refine qp_br_E qp_ok12 (f := n ≤ (I 1 0)) (ct := (18, [some (.ref 0), some (.ref 1), some (.int r), some (.int n), some (.int v)], [], qp_mk I J)) (cf := (16, [some (.ref 0), some (.ref 1), some (.int r), some (.int n), some (.int v)], [], qp_mk I J)) (by with_unfolding_all rfl) (fun h2 => ?_) (fun h2 => ?_)
    · refine qp_run_E qp_ok12 1 (c' := (19, [some (.ref 0), some (.ref 1), some (.int r), some (.int n), some (.int v)], [.int n], qp_mk I J)) (by with_unfolding_all rfl) hd1 trivial ?_
      refine qp_br_E qp_ok12 (f := 0 ≤ n) (ct := (28, [some (.ref 0), some (.ref 1), some (.int r), some (.int n), some (.int v)], [], qp_mk I J)) (cf := (22, [some (.ref 0), some (.ref 1), some (.int r), some (.int n), some (.int v)], [], qp_mk I J)) (by with_unfolding_all rfl) (fun h3 => ?_) (fun h3 => ?_)
      · exfalso; grind
      · refine qp_run_E qp_ok12 2 (c' := (24, [some (.ref 0), some (.ref 1), some (.int r), some (.int n), some (.int v)], [.int 5, .ref 0], qp_mk I J)) (by with_unfolding_all rfl) hd1 trivial ?_
        refine qp_cV qp_ok12 (rest := []) (oj := 0) qp_f14 rfl rfl (qx_found l G 5 I J (by decide) (Nat.le_refl 1)) rfl rfl rfl rfl (Nat.le_trans (by decide) hd) ?_
        exact qp_retI_E qp_ok12 rfl qp_r12.1 ⟨rfl, rfl⟩ ⟨rfl, rfl⟩
    · exfalso; have := hk1.1; grind

theorem qx_anewF1 (l : Launch) (G : qp_G) (r : Int32) (n : Int32) (v : Int32) (I : Nat → Nat → Int32) (J : Nat → Nat → Int64) (hk1 : qs_ok 1 2 6 40 I) (hp : (0 ≤ r ∧ r < 6) ∧ 0 ≤ n ∧ n ≤ 40) {d : Nat} (hd : 5 ≤ d) : qp_Met l G d 12 [.ref 0, .ref 1, .int r, .int n, .int v] (qp_mk I J) 0 0 (qp_R8 (some (.int n)) (qs_fill (qp_up I 2 (Int32.toNatClampNeg r) n) 3 (40 * (Int32.toNatClampNeg r)) (Int32.toNatClampNeg n) v) J) := by
  have hd1 : Nat.ble 1 d = true := Nat.ble_eq_true_of_le (Nat.le_trans (by decide) hd)
  refine qp_Met_of (by decide) (by rw [qp_r12.2]; rfl) [some (.ref 0), some (.ref 1), some (.int r), some (.int n), some (.int v)] (by rw [qp_r12.2]; rfl) ?_
  refine qp_run_E qp_ok12 2 (c' := (2, [some (.ref 0), some (.ref 1), some (.int r), some (.int n), some (.int v)], [.int r, .ref 1], qp_mk I J)) (by with_unfolding_all rfl) hd1 trivial ?_
  refine qp_cV qp_ok12 (rest := []) (oj := 1) qp_f13 rfl rfl (qs_isNumber1 l G r I J  (Nat.le_refl 1)) rfl rfl rfl rfl (Nat.le_trans (by decide) hd) ?_
  refine qp_br_E qp_ok12 (f := (qp_b2 (0 ≤ r ∧ r < 6)) = 0) (ct := (16, [some (.ref 0), some (.ref 1), some (.int r), some (.int n), some (.int v)], [], qp_mk I J)) (cf := (8, [some (.ref 0), some (.ref 1), some (.int r), some (.int n), some (.int v)], [], qp_mk I J)) (by with_unfolding_all rfl) (fun h1 => ?_) (fun h1 => ?_)
  · have h1 := qp_b2_0.mp h1
    exfalso; grind
  · have h1 := qp_b2_1.mp h1
    refine qp_run_E qp_ok12 3 (c' := (13, [some (.ref 0), some (.ref 1), some (.int r), some (.int n), some (.int v)], [.int (I 1 0), .int n], qp_mk I J)) (by with_unfolding_all rfl) hd1 trivial ?_
    refine qp_br_E qp_ok12 (f := n ≤ (I 1 0)) (ct := (18, [some (.ref 0), some (.ref 1), some (.int r), some (.int n), some (.int v)], [], qp_mk I J)) (cf := (16, [some (.ref 0), some (.ref 1), some (.int r), some (.int n), some (.int v)], [], qp_mk I J)) (by with_unfolding_all rfl) (fun h2 => ?_) (fun h2 => ?_)
    · refine qp_run_E qp_ok12 1 (c' := (19, [some (.ref 0), some (.ref 1), some (.int r), some (.int n), some (.int v)], [.int n], qp_mk I J)) (by with_unfolding_all rfl) hd1 trivial ?_
      refine qp_br_E qp_ok12 (f := 0 ≤ n) (ct := (28, [some (.ref 0), some (.ref 1), some (.int r), some (.int n), some (.int v)], [], qp_mk I J)) (cf := (22, [some (.ref 0), some (.ref 1), some (.int r), some (.int n), some (.int v)], [], qp_mk I J)) (by with_unfolding_all rfl) (fun h3 => ?_) (fun h3 => ?_)
      · refine qp_run_E qp_ok12 4 (c' := (33, [some (.ref 0), some (.ref 1), some (.int r), some (.int n), some (.int v)], [.int v, .int n, .int r, .ref 1], qp_mk I J)) (by with_unfolding_all rfl) hd1 trivial ?_
        refine qp_cV qp_ok12 (rest := []) (oj := 1) qp_f15 rfl rfl (qs_fresh1 l G r n v I J hk1 (by first | assumption | grind) (Nat.le_refl 3)) rfl rfl rfl rfl (Nat.le_trans (by decide) hd) ?_
        refine qp_run_E qp_ok12 1 (c' := (37, [some (.ref 0), some (.ref 1), some (.int r), some (.int n), some (.int v)], [.int n], qp_mk (qs_fill (qp_up I 2 (Int32.toNatClampNeg r) n) 3 (40 * (Int32.toNatClampNeg r)) (Int32.toNatClampNeg n) v) J)) (by with_unfolding_all rfl) hd1 trivial ?_
        exact qp_retI_E qp_ok12 rfl qp_r12.1 ⟨rfl, rfl⟩ ⟨rfl, rfl⟩
      · exfalso; grind
    · exfalso; have := hk1.1; grind

theorem qx_rowB (l : Launch) (G : qp_G) (r : Int32) (n : Int32) (I : Nat → Nat → Int32) (J : Nat → Nat → Int64) (hk1 : qs_ok 1 2 6 40 I) (hp : ¬ ((0 ≤ r ∧ r < 6) ∧ n ≤ 40)) {d : Nat} (hd : 6 ≤ d) : qp_Met l G d 11 [.ref 0, .int r, .int n] (qp_mk I J) 0 0 (qp_R8 (some (.int (-1))) I J) := by
  have hd1 : Nat.ble 1 d = true := Nat.ble_eq_true_of_le (Nat.le_trans (by decide) hd)
  refine qp_Met_of (by decide) (by rw [qp_r11.2]; rfl) [some (.ref 0), some (.int r), some (.int n)] (by rw [qp_r11.2]; rfl) ?_
  refine qp_run_E qp_ok11 6 (c' := (8, [some (.ref 0), some (.int r), some (.int n)], [.int 0, .int n, .int r, .ref 1, .ref 0], qp_mk I J)) (by with_unfolding_all rfl) hd1 trivial ?_
  refine qp_cV qp_ok11 (rest := []) (oj := 0) qp_f12 rfl rfl (qx_anewB1 l G r n 0 I J hk1 (by first | assumption | grind) (Nat.le_refl 5)) rfl rfl rfl rfl (Nat.le_trans (by decide) hd) ?_
  exact qp_retI_E qp_ok11 rfl qp_r11.1 ⟨rfl, rfl⟩ ⟨rfl, rfl⟩

theorem qx_rowS (l : Launch) (G : qp_G) (r : Int32) (n : Int32) (I : Nat → Nat → Int32) (J : Nat → Nat → Int64) (hk1 : qs_ok 1 2 6 40 I) (hp : (0 ≤ r ∧ r < 6) ∧ n < 0) {d : Nat} (hd : 6 ≤ d) : qp_Met l G d 11 [.ref 0, .int r, .int n] (qp_mk I J) 0 0 (qp_R8 (some (.int (-3))) (qp_up (qp_up I 0 10 5) 35 5 ((I 35 5) + 1)) J) := by
  have hd1 : Nat.ble 1 d = true := Nat.ble_eq_true_of_le (Nat.le_trans (by decide) hd)
  refine qp_Met_of (by decide) (by rw [qp_r11.2]; rfl) [some (.ref 0), some (.int r), some (.int n)] (by rw [qp_r11.2]; rfl) ?_
  refine qp_run_E qp_ok11 6 (c' := (8, [some (.ref 0), some (.int r), some (.int n)], [.int 0, .int n, .int r, .ref 1, .ref 0], qp_mk I J)) (by with_unfolding_all rfl) hd1 trivial ?_
  refine qp_cV qp_ok11 (rest := []) (oj := 0) qp_f12 rfl rfl (qx_anewS1 l G r n 0 I J hk1 (by first | assumption | grind) (Nat.le_refl 5)) rfl rfl rfl rfl (Nat.le_trans (by decide) hd) ?_
  exact qp_retI_E qp_ok11 rfl qp_r11.1 ⟨rfl, rfl⟩ ⟨rfl, rfl⟩

theorem qx_rowF (l : Launch) (G : qp_G) (r : Int32) (n : Int32) (I : Nat → Nat → Int32) (J : Nat → Nat → Int64) (hk1 : qs_ok 1 2 6 40 I) (hp : (0 ≤ r ∧ r < 6) ∧ 0 ≤ n ∧ n ≤ 40) {d : Nat} (hd : 6 ≤ d) : qp_Met l G d 11 [.ref 0, .int r, .int n] (qp_mk I J) 0 0 (qp_R8 (some (.int n)) (qs_fill (qp_up I 2 (Int32.toNatClampNeg r) n) 3 (40 * (Int32.toNatClampNeg r)) (Int32.toNatClampNeg n) 0) J) := by
  have hd1 : Nat.ble 1 d = true := Nat.ble_eq_true_of_le (Nat.le_trans (by decide) hd)
  refine qp_Met_of (by decide) (by rw [qp_r11.2]; rfl) [some (.ref 0), some (.int r), some (.int n)] (by rw [qp_r11.2]; rfl) ?_
  refine qp_run_E qp_ok11 6 (c' := (8, [some (.ref 0), some (.int r), some (.int n)], [.int 0, .int n, .int r, .ref 1, .ref 0], qp_mk I J)) (by with_unfolding_all rfl) hd1 trivial ?_
  refine qp_cV qp_ok11 (rest := []) (oj := 0) qp_f12 rfl rfl (qx_anewF1 l G r n 0 I J hk1 (by first | assumption | grind) (Nat.le_refl 5)) rfl rfl rfl rfl (Nat.le_trans (by decide) hd) ?_
  exact qp_retI_E qp_ok11 rfl qp_r11.1 ⟨rfl, rfl⟩ ⟨rfl, rfl⟩

theorem qx_anewB4 (l : Launch) (G : qp_G) (r : Int32) (n : Int32) (v : Int32) (I : Nat → Nat → Int32) (J : Nat → Nat → Int64) (hk4 : qs_ok 4 5 4 60 I) (hp : ¬ ((0 ≤ r ∧ r < 4) ∧ n ≤ 60)) {d : Nat} (hd : 5 ≤ d) : qp_Met l G d 12 [.ref 0, .ref 4, .int r, .int n, .int v] (qp_mk I J) 0 0 (qp_R8 (some (.int (-1))) I J) := by
  have hd1 : Nat.ble 1 d = true := Nat.ble_eq_true_of_le (Nat.le_trans (by decide) hd)
  refine qp_Met_of (by decide) (by rw [qp_r12.2]; rfl) [some (.ref 0), some (.ref 4), some (.int r), some (.int n), some (.int v)] (by rw [qp_r12.2]; rfl) ?_
  refine qp_run_E qp_ok12 2 (c' := (2, [some (.ref 0), some (.ref 4), some (.int r), some (.int n), some (.int v)], [.int r, .ref 4], qp_mk I J)) (by with_unfolding_all rfl) hd1 trivial ?_
  refine qp_cV qp_ok12 (rest := []) (oj := 1) qp_f13 rfl rfl (qs_isNumber4 l G r I J  (Nat.le_refl 1)) rfl rfl rfl rfl (Nat.le_trans (by decide) hd) ?_
  refine qp_br_E qp_ok12 (f := (qp_b2 (0 ≤ r ∧ r < 4)) = 0) (ct := (16, [some (.ref 0), some (.ref 4), some (.int r), some (.int n), some (.int v)], [], qp_mk I J)) (cf := (8, [some (.ref 0), some (.ref 4), some (.int r), some (.int n), some (.int v)], [], qp_mk I J)) (by with_unfolding_all rfl) (fun h1 => ?_) (fun h1 => ?_)
  · have h1 := qp_b2_0.mp h1
    refine qp_run_E qp_ok12 1 (c' := (17, [some (.ref 0), some (.ref 4), some (.int r), some (.int n), some (.int v)], [.int (-1)], qp_mk I J)) (by with_unfolding_all rfl) hd1 trivial ?_
    exact qp_retI_E qp_ok12 rfl qp_r12.1 ⟨rfl, rfl⟩ ⟨rfl, rfl⟩
  · have h1 := qp_b2_1.mp h1
    refine qp_run_E qp_ok12 3 (c' := (13, [some (.ref 0), some (.ref 4), some (.int r), some (.int n), some (.int v)], [.int (I 4 0), .int n], qp_mk I J)) (by with_unfolding_all rfl) hd1 trivial ?_
    refine qp_br_E qp_ok12 (f := n ≤ (I 4 0)) (ct := (18, [some (.ref 0), some (.ref 4), some (.int r), some (.int n), some (.int v)], [], qp_mk I J)) (cf := (16, [some (.ref 0), some (.ref 4), some (.int r), some (.int n), some (.int v)], [], qp_mk I J)) (by with_unfolding_all rfl) (fun h2 => ?_) (fun h2 => ?_)
    · exfalso; have := hk4.1; grind
    · refine qp_run_E qp_ok12 1 (c' := (17, [some (.ref 0), some (.ref 4), some (.int r), some (.int n), some (.int v)], [.int (-1)], qp_mk I J)) (by with_unfolding_all rfl) hd1 trivial ?_
      exact qp_retI_E qp_ok12 rfl qp_r12.1 ⟨rfl, rfl⟩ ⟨rfl, rfl⟩

theorem qx_anewS4 (l : Launch) (G : qp_G) (r : Int32) (n : Int32) (v : Int32) (I : Nat → Nat → Int32) (J : Nat → Nat → Int64) (hk4 : qs_ok 4 5 4 60 I) (hp : (0 ≤ r ∧ r < 4) ∧ n < 0) {d : Nat} (hd : 5 ≤ d) : qp_Met l G d 12 [.ref 0, .ref 4, .int r, .int n, .int v] (qp_mk I J) 0 0 (qp_R8 (some (.int (-3))) (qp_up (qp_up I 0 10 5) 35 5 ((I 35 5) + 1)) J) := by
  have hd1 : Nat.ble 1 d = true := Nat.ble_eq_true_of_le (Nat.le_trans (by decide) hd)
  refine qp_Met_of (by decide) (by rw [qp_r12.2]; rfl) [some (.ref 0), some (.ref 4), some (.int r), some (.int n), some (.int v)] (by rw [qp_r12.2]; rfl) ?_
  refine qp_run_E qp_ok12 2 (c' := (2, [some (.ref 0), some (.ref 4), some (.int r), some (.int n), some (.int v)], [.int r, .ref 4], qp_mk I J)) (by with_unfolding_all rfl) hd1 trivial ?_
  refine qp_cV qp_ok12 (rest := []) (oj := 1) qp_f13 rfl rfl (qs_isNumber4 l G r I J  (Nat.le_refl 1)) rfl rfl rfl rfl (Nat.le_trans (by decide) hd) ?_
  refine qp_br_E qp_ok12 (f := (qp_b2 (0 ≤ r ∧ r < 4)) = 0) (ct := (16, [some (.ref 0), some (.ref 4), some (.int r), some (.int n), some (.int v)], [], qp_mk I J)) (cf := (8, [some (.ref 0), some (.ref 4), some (.int r), some (.int n), some (.int v)], [], qp_mk I J)) (by with_unfolding_all rfl) (fun h1 => ?_) (fun h1 => ?_)
  · have h1 := qp_b2_0.mp h1
    exfalso; grind
  · have h1 := qp_b2_1.mp h1
    refine qp_run_E qp_ok12 3 (c' := (13, [some (.ref 0), some (.ref 4), some (.int r), some (.int n), some (.int v)], [.int (I 4 0), .int n], qp_mk I J)) (by with_unfolding_all rfl) hd1 trivial ?_
    refine qp_br_E qp_ok12 (f := n ≤ (I 4 0)) (ct := (18, [some (.ref 0), some (.ref 4), some (.int r), some (.int n), some (.int v)], [], qp_mk I J)) (cf := (16, [some (.ref 0), some (.ref 4), some (.int r), some (.int n), some (.int v)], [], qp_mk I J)) (by with_unfolding_all rfl) (fun h2 => ?_) (fun h2 => ?_)
    · refine qp_run_E qp_ok12 1 (c' := (19, [some (.ref 0), some (.ref 4), some (.int r), some (.int n), some (.int v)], [.int n], qp_mk I J)) (by with_unfolding_all rfl) hd1 trivial ?_
      refine qp_br_E qp_ok12 (f := 0 ≤ n) (ct := (28, [some (.ref 0), some (.ref 4), some (.int r), some (.int n), some (.int v)], [], qp_mk I J)) (cf := (22, [some (.ref 0), some (.ref 4), some (.int r), some (.int n), some (.int v)], [], qp_mk I J)) (by with_unfolding_all rfl) (fun h3 => ?_) (fun h3 => ?_)
      · exfalso; grind
      · refine qp_run_E qp_ok12 2 (c' := (24, [some (.ref 0), some (.ref 4), some (.int r), some (.int n), some (.int v)], [.int 5, .ref 0], qp_mk I J)) (by with_unfolding_all rfl) hd1 trivial ?_
        refine qp_cV qp_ok12 (rest := []) (oj := 0) qp_f14 rfl rfl (qx_found l G 5 I J (by decide) (Nat.le_refl 1)) rfl rfl rfl rfl (Nat.le_trans (by decide) hd) ?_
        exact qp_retI_E qp_ok12 rfl qp_r12.1 ⟨rfl, rfl⟩ ⟨rfl, rfl⟩
    · exfalso; have := hk4.1; grind

theorem qx_anewF4 (l : Launch) (G : qp_G) (r : Int32) (n : Int32) (v : Int32) (I : Nat → Nat → Int32) (J : Nat → Nat → Int64) (hk4 : qs_ok 4 5 4 60 I) (hp : (0 ≤ r ∧ r < 4) ∧ 0 ≤ n ∧ n ≤ 60) {d : Nat} (hd : 5 ≤ d) : qp_Met l G d 12 [.ref 0, .ref 4, .int r, .int n, .int v] (qp_mk I J) 0 0 (qp_R8 (some (.int n)) (qs_fill (qp_up I 5 (Int32.toNatClampNeg r) n) 6 (60 * (Int32.toNatClampNeg r)) (Int32.toNatClampNeg n) v) J) := by
  have hd1 : Nat.ble 1 d = true := Nat.ble_eq_true_of_le (Nat.le_trans (by decide) hd)
  refine qp_Met_of (by decide) (by rw [qp_r12.2]; rfl) [some (.ref 0), some (.ref 4), some (.int r), some (.int n), some (.int v)] (by rw [qp_r12.2]; rfl) ?_
  refine qp_run_E qp_ok12 2 (c' := (2, [some (.ref 0), some (.ref 4), some (.int r), some (.int n), some (.int v)], [.int r, .ref 4], qp_mk I J)) (by with_unfolding_all rfl) hd1 trivial ?_
  refine qp_cV qp_ok12 (rest := []) (oj := 1) qp_f13 rfl rfl (qs_isNumber4 l G r I J  (Nat.le_refl 1)) rfl rfl rfl rfl (Nat.le_trans (by decide) hd) ?_
  refine qp_br_E qp_ok12 (f := (qp_b2 (0 ≤ r ∧ r < 4)) = 0) (ct := (16, [some (.ref 0), some (.ref 4), some (.int r), some (.int n), some (.int v)], [], qp_mk I J)) (cf := (8, [some (.ref 0), some (.ref 4), some (.int r), some (.int n), some (.int v)], [], qp_mk I J)) (by with_unfolding_all rfl) (fun h1 => ?_) (fun h1 => ?_)
  · have h1 := qp_b2_0.mp h1
    exfalso; grind
  · have h1 := qp_b2_1.mp h1
    refine qp_run_E qp_ok12 3 (c' := (13, [some (.ref 0), some (.ref 4), some (.int r), some (.int n), some (.int v)], [.int (I 4 0), .int n], qp_mk I J)) (by with_unfolding_all rfl) hd1 trivial ?_
    refine qp_br_E qp_ok12 (f := n ≤ (I 4 0)) (ct := (18, [some (.ref 0), some (.ref 4), some (.int r), some (.int n), some (.int v)], [], qp_mk I J)) (cf := (16, [some (.ref 0), some (.ref 4), some (.int r), some (.int n), some (.int v)], [], qp_mk I J)) (by with_unfolding_all rfl) (fun h2 => ?_) (fun h2 => ?_)
    · refine qp_run_E qp_ok12 1 (c' := (19, [some (.ref 0), some (.ref 4), some (.int r), some (.int n), some (.int v)], [.int n], qp_mk I J)) (by with_unfolding_all rfl) hd1 trivial ?_
      refine qp_br_E qp_ok12 (f := 0 ≤ n) (ct := (28, [some (.ref 0), some (.ref 4), some (.int r), some (.int n), some (.int v)], [], qp_mk I J)) (cf := (22, [some (.ref 0), some (.ref 4), some (.int r), some (.int n), some (.int v)], [], qp_mk I J)) (by with_unfolding_all rfl) (fun h3 => ?_) (fun h3 => ?_)
      · refine qp_run_E qp_ok12 4 (c' := (33, [some (.ref 0), some (.ref 4), some (.int r), some (.int n), some (.int v)], [.int v, .int n, .int r, .ref 4], qp_mk I J)) (by with_unfolding_all rfl) hd1 trivial ?_
        refine qp_cV qp_ok12 (rest := []) (oj := 1) qp_f15 rfl rfl (qs_fresh4 l G r n v I J hk4 (by first | assumption | grind) (Nat.le_refl 3)) rfl rfl rfl rfl (Nat.le_trans (by decide) hd) ?_
        refine qp_run_E qp_ok12 1 (c' := (37, [some (.ref 0), some (.ref 4), some (.int r), some (.int n), some (.int v)], [.int n], qp_mk (qs_fill (qp_up I 5 (Int32.toNatClampNeg r) n) 6 (60 * (Int32.toNatClampNeg r)) (Int32.toNatClampNeg n) v) J)) (by with_unfolding_all rfl) hd1 trivial ?_
        exact qp_retI_E qp_ok12 rfl qp_r12.1 ⟨rfl, rfl⟩ ⟨rfl, rfl⟩
      · exfalso; grind
    · exfalso; have := hk4.1; grind

theorem qx_textB (l : Launch) (G : qp_G) (r : Int32) (n : Int32) (I : Nat → Nat → Int32) (J : Nat → Nat → Int64) (hk4 : qs_ok 4 5 4 60 I) (hp : ¬ ((0 ≤ r ∧ r < 4) ∧ n ≤ 60)) {d : Nat} (hd : 6 ≤ d) : qp_Met l G d 33 [.ref 0, .int r, .int n] (qp_mk I J) 0 0 (qp_R8 (some (.int (-1))) I J) := by
  have hd1 : Nat.ble 1 d = true := Nat.ble_eq_true_of_le (Nat.le_trans (by decide) hd)
  refine qp_Met_of (by decide) (by rw [qp_r33.2]; rfl) [some (.ref 0), some (.int r), some (.int n)] (by rw [qp_r33.2]; rfl) ?_
  refine qp_run_E qp_ok33 6 (c' := (9, [some (.ref 0), some (.int r), some (.int n)], [.int 32, .int n, .int r, .ref 4, .ref 0], qp_mk I J)) (by with_unfolding_all rfl) hd1 trivial ?_
  refine qp_cV qp_ok33 (rest := []) (oj := 0) qp_f12 rfl rfl (qx_anewB4 l G r n 32 I J hk4 (by first | assumption | grind) (Nat.le_refl 5)) rfl rfl rfl rfl (Nat.le_trans (by decide) hd) ?_
  exact qp_retI_E qp_ok33 rfl qp_r33.1 ⟨rfl, rfl⟩ ⟨rfl, rfl⟩

theorem qx_textS (l : Launch) (G : qp_G) (r : Int32) (n : Int32) (I : Nat → Nat → Int32) (J : Nat → Nat → Int64) (hk4 : qs_ok 4 5 4 60 I) (hp : (0 ≤ r ∧ r < 4) ∧ n < 0) {d : Nat} (hd : 6 ≤ d) : qp_Met l G d 33 [.ref 0, .int r, .int n] (qp_mk I J) 0 0 (qp_R8 (some (.int (-3))) (qp_up (qp_up I 0 10 5) 35 5 ((I 35 5) + 1)) J) := by
  have hd1 : Nat.ble 1 d = true := Nat.ble_eq_true_of_le (Nat.le_trans (by decide) hd)
  refine qp_Met_of (by decide) (by rw [qp_r33.2]; rfl) [some (.ref 0), some (.int r), some (.int n)] (by rw [qp_r33.2]; rfl) ?_
  refine qp_run_E qp_ok33 6 (c' := (9, [some (.ref 0), some (.int r), some (.int n)], [.int 32, .int n, .int r, .ref 4, .ref 0], qp_mk I J)) (by with_unfolding_all rfl) hd1 trivial ?_
  refine qp_cV qp_ok33 (rest := []) (oj := 0) qp_f12 rfl rfl (qx_anewS4 l G r n 32 I J hk4 (by first | assumption | grind) (Nat.le_refl 5)) rfl rfl rfl rfl (Nat.le_trans (by decide) hd) ?_
  exact qp_retI_E qp_ok33 rfl qp_r33.1 ⟨rfl, rfl⟩ ⟨rfl, rfl⟩

theorem qx_textF (l : Launch) (G : qp_G) (r : Int32) (n : Int32) (I : Nat → Nat → Int32) (J : Nat → Nat → Int64) (hk4 : qs_ok 4 5 4 60 I) (hp : (0 ≤ r ∧ r < 4) ∧ 0 ≤ n ∧ n ≤ 60) {d : Nat} (hd : 6 ≤ d) : qp_Met l G d 33 [.ref 0, .int r, .int n] (qp_mk I J) 0 0 (qp_R8 (some (.int n)) (qs_fill (qp_up I 5 (Int32.toNatClampNeg r) n) 6 (60 * (Int32.toNatClampNeg r)) (Int32.toNatClampNeg n) 32) J) := by
  have hd1 : Nat.ble 1 d = true := Nat.ble_eq_true_of_le (Nat.le_trans (by decide) hd)
  refine qp_Met_of (by decide) (by rw [qp_r33.2]; rfl) [some (.ref 0), some (.int r), some (.int n)] (by rw [qp_r33.2]; rfl) ?_
  refine qp_run_E qp_ok33 6 (c' := (9, [some (.ref 0), some (.int r), some (.int n)], [.int 32, .int n, .int r, .ref 4, .ref 0], qp_mk I J)) (by with_unfolding_all rfl) hd1 trivial ?_
  refine qp_cV qp_ok33 (rest := []) (oj := 0) qp_f12 rfl rfl (qx_anewF4 l G r n 32 I J hk4 (by first | assumption | grind) (Nat.le_refl 5)) rfl rfl rfl rfl (Nat.le_trans (by decide) hd) ?_
  exact qp_retI_E qp_ok33 rfl qp_r33.1 ⟨rfl, rfl⟩ ⟨rfl, rfl⟩

theorem qx_atB (l : Launch) (G : qp_G) (r : Int32) (i : Int32) (I : Nat → Nat → Int32) (J : Nat → Nat → Int64) (hk1 : qs_ok 1 2 6 40 I) (hp : ¬ (0 ≤ r ∧ r < 6)) {d : Nat} (hd : 7 ≤ d) : qp_Met l G d 25 [.ref 0, .int r, .int i] (qp_mk I J) 0 0 (qp_R8 (some (.int (-1))) I J) := by
  have hd1 : Nat.ble 1 d = true := Nat.ble_eq_true_of_le (Nat.le_trans (by decide) hd)
  refine qp_Met_of (by decide) (by rw [qp_r25.2]; rfl) [some (.ref 0), some (.int r), some (.int i), none] (by rw [qp_r25.2]; rfl) ?_
  refine qp_run_E qp_ok25 5 (c' := (7, [some (.ref 0), some (.int r), some (.int i), none], [.int i, .int r, .ref 1, .ref 0], qp_mk I J)) (by with_unfolding_all rfl) hd1 trivial ?_
  refine qp_cV qp_ok25 (rest := []) (oj := 0) qp_f17 rfl rfl (qx_rplB1 l G r i I J (by first | assumption | grind) (Nat.le_refl 6)) rfl rfl rfl rfl (Nat.le_trans (by decide) hd) ?_
  refine qp_run_E qp_ok25 2 (c' := (12, [some (.ref 0), some (.int r), some (.int i), some (.int (-1))], [.int (-1)], qp_mk I J)) (by with_unfolding_all rfl) hd1 trivial ?_
  refine qp_br_E qp_ok25 (f := ((-1) : Int32) = 0) (cf := (15, [some (.ref 0), some (.int r), some (.int i), some (.int (-1))], [], qp_mk I J)) (by with_unfolding_all rfl) (fun h => absurd h (by decide)) (fun _ => ?_)
  refine qp_run_E qp_ok25 1 (c' := (16, [some (.ref 0), some (.int r), some (.int i), some (.int (-1))], [.int (-1)], qp_mk I J)) (by with_unfolding_all rfl) hd1 trivial ?_
  exact qp_retI_E qp_ok25 rfl qp_r25.1 ⟨rfl, rfl⟩ ⟨rfl, rfl⟩

theorem qx_atN (l : Launch) (G : qp_G) (r : Int32) (i : Int32) (I : Nat → Nat → Int32) (J : Nat → Nat → Int64) (hk1 : qs_ok 1 2 6 40 I) (hp : (0 ≤ r ∧ r < 6)) (hn : I 2 (Int32.toNatClampNeg r) = -1) {d : Nat} (hd : 7 ≤ d) : qp_Met l G d 25 [.ref 0, .int r, .int i] (qp_mk I J) 0 0 (qp_R8 (some (.int (-3))) (qp_up (qp_up I 0 10 1) 35 1 ((I 35 1) + 1)) J) := by
  have hd1 : Nat.ble 1 d = true := Nat.ble_eq_true_of_le (Nat.le_trans (by decide) hd)
  refine qp_Met_of (by decide) (by rw [qp_r25.2]; rfl) [some (.ref 0), some (.int r), some (.int i), none] (by rw [qp_r25.2]; rfl) ?_
  refine qp_run_E qp_ok25 5 (c' := (7, [some (.ref 0), some (.int r), some (.int i), none], [.int i, .int r, .ref 1, .ref 0], qp_mk I J)) (by with_unfolding_all rfl) hd1 trivial ?_
  refine qp_cV qp_ok25 (rest := []) (oj := 0) qp_f17 rfl rfl (qx_rplN1 l G r i I J (by first | assumption | grind) (by first | assumption | grind) (Nat.le_refl 6)) rfl rfl rfl rfl (Nat.le_trans (by decide) hd) ?_
  refine qp_run_E qp_ok25 2 (c' := (12, [some (.ref 0), some (.int r), some (.int i), some (.int (-3))], [.int (-3)], qp_mk (qp_up (qp_up I 0 10 1) 35 1 ((I 35 1) + 1)) J)) (by with_unfolding_all rfl) hd1 trivial ?_
  refine qp_br_E qp_ok25 (f := ((-3) : Int32) = 0) (cf := (15, [some (.ref 0), some (.int r), some (.int i), some (.int (-3))], [], qp_mk (qp_up (qp_up I 0 10 1) 35 1 ((I 35 1) + 1)) J)) (by with_unfolding_all rfl) (fun h => absurd h (by decide)) (fun _ => ?_)
  refine qp_run_E qp_ok25 1 (c' := (16, [some (.ref 0), some (.int r), some (.int i), some (.int (-3))], [.int (-3)], qp_mk (qp_up (qp_up I 0 10 1) 35 1 ((I 35 1) + 1)) J)) (by with_unfolding_all rfl) hd1 trivial ?_
  exact qp_retI_E qp_ok25 rfl qp_r25.1 ⟨rfl, rfl⟩ ⟨rfl, rfl⟩

theorem qx_atY (l : Launch) (G : qp_G) (r : Int32) (i : Int32) (I : Nat → Nat → Int32) (J : Nat → Nat → Int64) (hk1 : qs_ok 1 2 6 40 I) (hp : (0 ≤ r ∧ r < 6)) (hn : ¬ I 2 (Int32.toNatClampNeg r) = -1) (hi : ¬ (0 ≤ i ∧ i < I 2 (Int32.toNatClampNeg r))) {d : Nat} (hd : 7 ≤ d) : qp_Met l G d 25 [.ref 0, .int r, .int i] (qp_mk I J) 0 0 (qp_R8 (some (.int (-3))) (qp_up (qp_up I 0 10 2) 35 2 ((I 35 2) + 1)) J) := by
  have hd1 : Nat.ble 1 d = true := Nat.ble_eq_true_of_le (Nat.le_trans (by decide) hd)
  refine qp_Met_of (by decide) (by rw [qp_r25.2]; rfl) [some (.ref 0), some (.int r), some (.int i), none] (by rw [qp_r25.2]; rfl) ?_
  refine qp_run_E qp_ok25 5 (c' := (7, [some (.ref 0), some (.int r), some (.int i), none], [.int i, .int r, .ref 1, .ref 0], qp_mk I J)) (by with_unfolding_all rfl) hd1 trivial ?_
  refine qp_cV qp_ok25 (rest := []) (oj := 0) qp_f17 rfl rfl (qx_rplY1 l G r i I J (by first | assumption | grind) (by first | assumption | grind) (by first | assumption | grind) (Nat.le_refl 6)) rfl rfl rfl rfl (Nat.le_trans (by decide) hd) ?_
  refine qp_run_E qp_ok25 2 (c' := (12, [some (.ref 0), some (.int r), some (.int i), some (.int (-3))], [.int (-3)], qp_mk (qp_up (qp_up I 0 10 2) 35 2 ((I 35 2) + 1)) J)) (by with_unfolding_all rfl) hd1 trivial ?_
  refine qp_br_E qp_ok25 (f := ((-3) : Int32) = 0) (cf := (15, [some (.ref 0), some (.int r), some (.int i), some (.int (-3))], [], qp_mk (qp_up (qp_up I 0 10 2) 35 2 ((I 35 2) + 1)) J)) (by with_unfolding_all rfl) (fun h => absurd h (by decide)) (fun _ => ?_)
  refine qp_run_E qp_ok25 1 (c' := (16, [some (.ref 0), some (.int r), some (.int i), some (.int (-3))], [.int (-3)], qp_mk (qp_up (qp_up I 0 10 2) 35 2 ((I 35 2) + 1)) J)) (by with_unfolding_all rfl) hd1 trivial ?_
  exact qp_retI_E qp_ok25 rfl qp_r25.1 ⟨rfl, rfl⟩ ⟨rfl, rfl⟩

theorem qx_atF (l : Launch) (G : qp_G) (r : Int32) (i : Int32) (I : Nat → Nat → Int32) (J : Nat → Nat → Int64) (hk1 : qs_ok 1 2 6 40 I) (hp : (0 ≤ r ∧ r < 6)) (hn : ¬ I 2 (Int32.toNatClampNeg r) = -1) (hi : 0 ≤ i ∧ i < I 2 (Int32.toNatClampNeg r)) {d : Nat} (hd : 7 ≤ d) : qp_Met l G d 25 [.ref 0, .int r, .int i] (qp_mk I J) 0 0 (qp_R8 (some (.int 1)) (qp_up I 0 11 (I 3 (40 * (Int32.toNatClampNeg r) + (Int32.toNatClampNeg i)))) J) := by
  have hd1 : Nat.ble 1 d = true := Nat.ble_eq_true_of_le (Nat.le_trans (by decide) hd)
  refine qp_Met_of (by decide) (by rw [qp_r25.2]; rfl) [some (.ref 0), some (.int r), some (.int i), none] (by rw [qp_r25.2]; rfl) ?_
  refine qp_run_E qp_ok25 5 (c' := (7, [some (.ref 0), some (.int r), some (.int i), none], [.int i, .int r, .ref 1, .ref 0], qp_mk I J)) (by with_unfolding_all rfl) hd1 trivial ?_
  refine qp_cV qp_ok25 (rest := []) (oj := 0) qp_f17 rfl rfl (qx_rplF1 l G r i I J (by first | assumption | grind) (by first | assumption | grind) (by first | assumption | grind) (Nat.le_refl 6)) rfl rfl rfl rfl (Nat.le_trans (by decide) hd) ?_
  refine qp_run_E qp_ok25 2 (c' := (12, [some (.ref 0), some (.int r), some (.int i), some (.int 0)], [.int 0], qp_mk I J)) (by with_unfolding_all rfl) hd1 trivial ?_
  refine qp_br_E qp_ok25 (f := (0 : Int32) = 0) (ct := (17, [some (.ref 0), some (.int r), some (.int i), some (.int 0)], [], qp_mk I J)) (by with_unfolding_all rfl) (fun _ => ?_) (fun h => absurd (by decide) h)
  refine qp_run_E qp_ok25 5 (c' := (24, [some (.ref 0), some (.int r), some (.int i), some (.int 0)], [.int i, .int r, .ref 1, .ref 0], qp_mk I J)) (by with_unfolding_all rfl) hd1 trivial ?_
  refine qp_cV qp_ok25 (rest := [.ref 0]) (oj := 1) qp_f22 rfl rfl (qs_get1 l G r i I J hk1 (Nat.le_refl 3)) rfl rfl rfl rfl (Nat.le_trans (by decide) hd) ?_
  refine qp_cV qp_ok25 (rest := []) (oj := 0) qp_f24 rfl rfl (qx_tell l G (if ((0 ≤ r ∧ r < 6) ∧ 0 ≤ i ∧ i < (I 2 (Int32.toNatClampNeg r))) then (I 3 (40 * (Int32.toNatClampNeg r) + (Int32.toNatClampNeg i))) else 0) I J  (Nat.le_refl 1)) rfl rfl rfl rfl (Nat.le_trans (by decide) hd) ?_
  exact qp_retI_E qp_ok25 rfl qp_r25.1 ⟨rfl, rfl⟩ ⟨rfl, by rw [if_pos ⟨hp, hi⟩]⟩

theorem qx_layB (l : Launch) (G : qp_G) (r : Int32) (i : Int32) (v : Int32) (I : Nat → Nat → Int32) (J : Nat → Nat → Int64) (hk1 : qs_ok 1 2 6 40 I) (hp : ¬ (0 ≤ r ∧ r < 6)) {d : Nat} (hd : 7 ≤ d) : qp_Met l G d 16 [.ref 0, .int r, .int i, .int v] (qp_mk I J) 0 0 (qp_R8 (some (.int (-1))) I J) := by
  have hd1 : Nat.ble 1 d = true := Nat.ble_eq_true_of_le (Nat.le_trans (by decide) hd)
  refine qp_Met_of (by decide) (by rw [qp_r16.2]; rfl) [some (.ref 0), some (.int r), some (.int i), some (.int v), none, none] (by rw [qp_r16.2]; rfl) ?_
  refine qp_run_E qp_ok16 5 (c' := (7, [some (.ref 0), some (.int r), some (.int i), some (.int v), none, none], [.int i, .int r, .ref 1, .ref 0], qp_mk I J)) (by with_unfolding_all rfl) hd1 trivial ?_
  refine qp_cV qp_ok16 (rest := []) (oj := 0) qp_f17 rfl rfl (qx_rplB1 l G r i I J (by first | assumption | grind) (Nat.le_refl 6)) rfl rfl rfl rfl (Nat.le_trans (by decide) hd) ?_
  refine qp_run_E qp_ok16 2 (c' := (14, [some (.ref 0), some (.int r), some (.int i), some (.int v), some (.int (-1)), none], [.int (-1)], qp_mk I J)) (by with_unfolding_all rfl) hd1 trivial ?_
  refine qp_br_E qp_ok16 (f := ((-1) : Int32) = 0) (cf := (17, [some (.ref 0), some (.int r), some (.int i), some (.int v), some (.int (-1)), none], [], qp_mk I J)) (by with_unfolding_all rfl) (fun h => absurd h (by decide)) (fun _ => ?_)
  refine qp_run_E qp_ok16 1 (c' := (19, [some (.ref 0), some (.int r), some (.int i), some (.int v), some (.int (-1)), none], [.int (-1)], qp_mk I J)) (by with_unfolding_all rfl) hd1 trivial ?_
  exact qp_retI_E qp_ok16 rfl qp_r16.1 ⟨rfl, rfl⟩ ⟨rfl, rfl⟩

theorem qx_layN (l : Launch) (G : qp_G) (r : Int32) (i : Int32) (v : Int32) (I : Nat → Nat → Int32) (J : Nat → Nat → Int64) (hk1 : qs_ok 1 2 6 40 I) (hp : (0 ≤ r ∧ r < 6)) (hn : I 2 (Int32.toNatClampNeg r) = -1) {d : Nat} (hd : 7 ≤ d) : qp_Met l G d 16 [.ref 0, .int r, .int i, .int v] (qp_mk I J) 0 0 (qp_R8 (some (.int (-3))) (qp_up (qp_up I 0 10 1) 35 1 ((I 35 1) + 1)) J) := by
  have hd1 : Nat.ble 1 d = true := Nat.ble_eq_true_of_le (Nat.le_trans (by decide) hd)
  refine qp_Met_of (by decide) (by rw [qp_r16.2]; rfl) [some (.ref 0), some (.int r), some (.int i), some (.int v), none, none] (by rw [qp_r16.2]; rfl) ?_
  refine qp_run_E qp_ok16 5 (c' := (7, [some (.ref 0), some (.int r), some (.int i), some (.int v), none, none], [.int i, .int r, .ref 1, .ref 0], qp_mk I J)) (by with_unfolding_all rfl) hd1 trivial ?_
  refine qp_cV qp_ok16 (rest := []) (oj := 0) qp_f17 rfl rfl (qx_rplN1 l G r i I J (by first | assumption | grind) (by first | assumption | grind) (Nat.le_refl 6)) rfl rfl rfl rfl (Nat.le_trans (by decide) hd) ?_
  refine qp_run_E qp_ok16 2 (c' := (14, [some (.ref 0), some (.int r), some (.int i), some (.int v), some (.int (-3)), none], [.int (-3)], qp_mk (qp_up (qp_up I 0 10 1) 35 1 ((I 35 1) + 1)) J)) (by with_unfolding_all rfl) hd1 trivial ?_
  refine qp_br_E qp_ok16 (f := ((-3) : Int32) = 0) (cf := (17, [some (.ref 0), some (.int r), some (.int i), some (.int v), some (.int (-3)), none], [], qp_mk (qp_up (qp_up I 0 10 1) 35 1 ((I 35 1) + 1)) J)) (by with_unfolding_all rfl) (fun h => absurd h (by decide)) (fun _ => ?_)
  refine qp_run_E qp_ok16 1 (c' := (19, [some (.ref 0), some (.int r), some (.int i), some (.int v), some (.int (-3)), none], [.int (-3)], qp_mk (qp_up (qp_up I 0 10 1) 35 1 ((I 35 1) + 1)) J)) (by with_unfolding_all rfl) hd1 trivial ?_
  exact qp_retI_E qp_ok16 rfl qp_r16.1 ⟨rfl, rfl⟩ ⟨rfl, rfl⟩

theorem qx_layY (l : Launch) (G : qp_G) (r : Int32) (i : Int32) (v : Int32) (I : Nat → Nat → Int32) (J : Nat → Nat → Int64) (hk1 : qs_ok 1 2 6 40 I) (hp : (0 ≤ r ∧ r < 6)) (hn : ¬ I 2 (Int32.toNatClampNeg r) = -1) (hi : ¬ (0 ≤ i ∧ i < I 2 (Int32.toNatClampNeg r))) {d : Nat} (hd : 7 ≤ d) : qp_Met l G d 16 [.ref 0, .int r, .int i, .int v] (qp_mk I J) 0 0 (qp_R8 (some (.int (-3))) (qp_up (qp_up I 0 10 2) 35 2 ((I 35 2) + 1)) J) := by
  have hd1 : Nat.ble 1 d = true := Nat.ble_eq_true_of_le (Nat.le_trans (by decide) hd)
  refine qp_Met_of (by decide) (by rw [qp_r16.2]; rfl) [some (.ref 0), some (.int r), some (.int i), some (.int v), none, none] (by rw [qp_r16.2]; rfl) ?_
  refine qp_run_E qp_ok16 5 (c' := (7, [some (.ref 0), some (.int r), some (.int i), some (.int v), none, none], [.int i, .int r, .ref 1, .ref 0], qp_mk I J)) (by with_unfolding_all rfl) hd1 trivial ?_
  refine qp_cV qp_ok16 (rest := []) (oj := 0) qp_f17 rfl rfl (qx_rplY1 l G r i I J (by first | assumption | grind) (by first | assumption | grind) (by first | assumption | grind) (Nat.le_refl 6)) rfl rfl rfl rfl (Nat.le_trans (by decide) hd) ?_
  refine qp_run_E qp_ok16 2 (c' := (14, [some (.ref 0), some (.int r), some (.int i), some (.int v), some (.int (-3)), none], [.int (-3)], qp_mk (qp_up (qp_up I 0 10 2) 35 2 ((I 35 2) + 1)) J)) (by with_unfolding_all rfl) hd1 trivial ?_
  refine qp_br_E qp_ok16 (f := ((-3) : Int32) = 0) (cf := (17, [some (.ref 0), some (.int r), some (.int i), some (.int v), some (.int (-3)), none], [], qp_mk (qp_up (qp_up I 0 10 2) 35 2 ((I 35 2) + 1)) J)) (by with_unfolding_all rfl) (fun h => absurd h (by decide)) (fun _ => ?_)
  refine qp_run_E qp_ok16 1 (c' := (19, [some (.ref 0), some (.int r), some (.int i), some (.int v), some (.int (-3)), none], [.int (-3)], qp_mk (qp_up (qp_up I 0 10 2) 35 2 ((I 35 2) + 1)) J)) (by with_unfolding_all rfl) hd1 trivial ?_
  exact qp_retI_E qp_ok16 rfl qp_r16.1 ⟨rfl, rfl⟩ ⟨rfl, rfl⟩

theorem qx_layF (l : Launch) (G : qp_G) (r : Int32) (i : Int32) (v : Int32) (I : Nat → Nat → Int32) (J : Nat → Nat → Int64) (hk1 : qs_ok 1 2 6 40 I) (hp : (0 ≤ r ∧ r < 6)) (hn : ¬ I 2 (Int32.toNatClampNeg r) = -1) (hi : 0 ≤ i ∧ i < I 2 (Int32.toNatClampNeg r)) {d : Nat} (hd : 7 ≤ d) : qp_Met l G d 16 [.ref 0, .int r, .int i, .int v] (qp_mk I J) 0 0 (qp_R8 (some (.int 1)) (qp_up (qp_up I 3 (40 * (Int32.toNatClampNeg r) + (Int32.toNatClampNeg i)) v) 0 11 (I 3 (40 * (Int32.toNatClampNeg r) + (Int32.toNatClampNeg i)))) J) := by
  have hd1 : Nat.ble 1 d = true := Nat.ble_eq_true_of_le (Nat.le_trans (by decide) hd)
  refine qp_Met_of (by decide) (by rw [qp_r16.2]; rfl) [some (.ref 0), some (.int r), some (.int i), some (.int v), none, none] (by rw [qp_r16.2]; rfl) ?_
  refine qp_run_E qp_ok16 5 (c' := (7, [some (.ref 0), some (.int r), some (.int i), some (.int v), none, none], [.int i, .int r, .ref 1, .ref 0], qp_mk I J)) (by with_unfolding_all rfl) hd1 trivial ?_
  refine qp_cV qp_ok16 (rest := []) (oj := 0) qp_f17 rfl rfl (qx_rplF1 l G r i I J (by first | assumption | grind) (by first | assumption | grind) (by first | assumption | grind) (Nat.le_refl 6)) rfl rfl rfl rfl (Nat.le_trans (by decide) hd) ?_
  refine qp_run_E qp_ok16 2 (c' := (14, [some (.ref 0), some (.int r), some (.int i), some (.int v), some (.int 0), none], [.int 0], qp_mk I J)) (by with_unfolding_all rfl) hd1 trivial ?_
  refine qp_br_E qp_ok16 (f := (0 : Int32) = 0) (ct := (20, [some (.ref 0), some (.int r), some (.int i), some (.int v), some (.int 0), none], [], qp_mk I J)) (by with_unfolding_all rfl) (fun _ => ?_) (fun h => absurd (by decide) h)
  refine qp_run_E qp_ok16 4 (c' := (26, [some (.ref 0), some (.int r), some (.int i), some (.int v), some (.int 0), none], [.int i, .int r, .ref 1], qp_mk I J)) (by with_unfolding_all rfl) hd1 trivial ?_
  refine qp_cV qp_ok16 (rest := []) (oj := 1) qp_f22 rfl rfl (qs_get1 l G r i I J hk1 (Nat.le_refl 3)) rfl rfl rfl rfl (Nat.le_trans (by decide) hd) ?_
  refine qp_run_E qp_ok16 6 (c' := (38, [some (.ref 0), some (.int r), some (.int i), some (.int v), some (.int 0), some (.int (if ((0 ≤ r ∧ r < 6) ∧ 0 ≤ i ∧ i < (I 2 (Int32.toNatClampNeg r))) then (I 3 (40 * (Int32.toNatClampNeg r) + (Int32.toNatClampNeg i))) else 0))], [.int v, .int i, .int r, .ref 1], qp_mk I J)) (by with_unfolding_all rfl) hd1 trivial ?_
  refine qp_cV qp_ok16 (rest := []) (oj := 1) qp_f23 rfl rfl (qs_set1 l G r i v I J hk1 (by first | assumption | grind) (Nat.le_refl 3)) rfl rfl rfl rfl (Nat.le_trans (by decide) hd) ?_
  refine qp_run_E qp_ok16 2 (c' := (44, [some (.ref 0), some (.int r), some (.int i), some (.int v), some (.int 0), some (.int (if ((0 ≤ r ∧ r < 6) ∧ 0 ≤ i ∧ i < (I 2 (Int32.toNatClampNeg r))) then (I 3 (40 * (Int32.toNatClampNeg r) + (Int32.toNatClampNeg i))) else 0))], [.int (if ((0 ≤ r ∧ r < 6) ∧ 0 ≤ i ∧ i < (I 2 (Int32.toNatClampNeg r))) then (I 3 (40 * (Int32.toNatClampNeg r) + (Int32.toNatClampNeg i))) else 0), .ref 0], qp_mk (qp_up I 3 (40 * (Int32.toNatClampNeg r) + (Int32.toNatClampNeg i)) v) J)) (by with_unfolding_all rfl) hd1 trivial ?_
  refine qp_cV qp_ok16 (rest := []) (oj := 0) qp_f24 rfl rfl (qx_tell l G (if ((0 ≤ r ∧ r < 6) ∧ 0 ≤ i ∧ i < (I 2 (Int32.toNatClampNeg r))) then (I 3 (40 * (Int32.toNatClampNeg r) + (Int32.toNatClampNeg i))) else 0) (qp_up I 3 (40 * (Int32.toNatClampNeg r) + (Int32.toNatClampNeg i)) v) J  (Nat.le_refl 1)) rfl rfl rfl rfl (Nat.le_trans (by decide) hd) ?_
  exact qp_retI_E qp_ok16 rfl qp_r16.1 ⟨rfl, rfl⟩ ⟨rfl, by rw [if_pos ⟨hp, hi⟩]⟩

theorem qx_putB (l : Launch) (G : qp_G) (r : Int32) (i : Int32) (v : Int32) (I : Nat → Nat → Int32) (J : Nat → Nat → Int64) (hk4 : qs_ok 4 5 4 60 I) (hp : ¬ (0 ≤ r ∧ r < 4)) {d : Nat} (hd : 7 ≤ d) : qp_Met l G d 34 [.ref 0, .int r, .int i, .int v] (qp_mk I J) 0 0 (qp_R8 (some (.int (-1))) I J) := by
  have hd1 : Nat.ble 1 d = true := Nat.ble_eq_true_of_le (Nat.le_trans (by decide) hd)
  refine qp_Met_of (by decide) (by rw [qp_r34.2]; rfl) [some (.ref 0), some (.int r), some (.int i), some (.int v), none, none] (by rw [qp_r34.2]; rfl) ?_
  refine qp_run_E qp_ok34 5 (c' := (7, [some (.ref 0), some (.int r), some (.int i), some (.int v), none, none], [.int i, .int r, .ref 4, .ref 0], qp_mk I J)) (by with_unfolding_all rfl) hd1 trivial ?_
  refine qp_cV qp_ok34 (rest := []) (oj := 0) qp_f17 rfl rfl (qx_rplB4 l G r i I J (by first | assumption | grind) (Nat.le_refl 6)) rfl rfl rfl rfl (Nat.le_trans (by decide) hd) ?_
  refine qp_run_E qp_ok34 2 (c' := (14, [some (.ref 0), some (.int r), some (.int i), some (.int v), some (.int (-1)), none], [.int (-1)], qp_mk I J)) (by with_unfolding_all rfl) hd1 trivial ?_
  refine qp_br_E qp_ok34 (f := ((-1) : Int32) = 0) (cf := (17, [some (.ref 0), some (.int r), some (.int i), some (.int v), some (.int (-1)), none], [], qp_mk I J)) (by with_unfolding_all rfl) (fun h => absurd h (by decide)) (fun _ => ?_)
  refine qp_run_E qp_ok34 1 (c' := (19, [some (.ref 0), some (.int r), some (.int i), some (.int v), some (.int (-1)), none], [.int (-1)], qp_mk I J)) (by with_unfolding_all rfl) hd1 trivial ?_
  exact qp_retI_E qp_ok34 rfl qp_r34.1 ⟨rfl, rfl⟩ ⟨rfl, rfl⟩

theorem qx_putN (l : Launch) (G : qp_G) (r : Int32) (i : Int32) (v : Int32) (I : Nat → Nat → Int32) (J : Nat → Nat → Int64) (hk4 : qs_ok 4 5 4 60 I) (hp : (0 ≤ r ∧ r < 4)) (hn : I 5 (Int32.toNatClampNeg r) = -1) {d : Nat} (hd : 7 ≤ d) : qp_Met l G d 34 [.ref 0, .int r, .int i, .int v] (qp_mk I J) 0 0 (qp_R8 (some (.int (-3))) (qp_up (qp_up I 0 10 1) 35 1 ((I 35 1) + 1)) J) := by
  have hd1 : Nat.ble 1 d = true := Nat.ble_eq_true_of_le (Nat.le_trans (by decide) hd)
  refine qp_Met_of (by decide) (by rw [qp_r34.2]; rfl) [some (.ref 0), some (.int r), some (.int i), some (.int v), none, none] (by rw [qp_r34.2]; rfl) ?_
  refine qp_run_E qp_ok34 5 (c' := (7, [some (.ref 0), some (.int r), some (.int i), some (.int v), none, none], [.int i, .int r, .ref 4, .ref 0], qp_mk I J)) (by with_unfolding_all rfl) hd1 trivial ?_
  refine qp_cV qp_ok34 (rest := []) (oj := 0) qp_f17 rfl rfl (qx_rplN4 l G r i I J (by first | assumption | grind) (by first | assumption | grind) (Nat.le_refl 6)) rfl rfl rfl rfl (Nat.le_trans (by decide) hd) ?_
  refine qp_run_E qp_ok34 2 (c' := (14, [some (.ref 0), some (.int r), some (.int i), some (.int v), some (.int (-3)), none], [.int (-3)], qp_mk (qp_up (qp_up I 0 10 1) 35 1 ((I 35 1) + 1)) J)) (by with_unfolding_all rfl) hd1 trivial ?_
  refine qp_br_E qp_ok34 (f := ((-3) : Int32) = 0) (cf := (17, [some (.ref 0), some (.int r), some (.int i), some (.int v), some (.int (-3)), none], [], qp_mk (qp_up (qp_up I 0 10 1) 35 1 ((I 35 1) + 1)) J)) (by with_unfolding_all rfl) (fun h => absurd h (by decide)) (fun _ => ?_)
  refine qp_run_E qp_ok34 1 (c' := (19, [some (.ref 0), some (.int r), some (.int i), some (.int v), some (.int (-3)), none], [.int (-3)], qp_mk (qp_up (qp_up I 0 10 1) 35 1 ((I 35 1) + 1)) J)) (by with_unfolding_all rfl) hd1 trivial ?_
  exact qp_retI_E qp_ok34 rfl qp_r34.1 ⟨rfl, rfl⟩ ⟨rfl, rfl⟩

theorem qx_putY (l : Launch) (G : qp_G) (r : Int32) (i : Int32) (v : Int32) (I : Nat → Nat → Int32) (J : Nat → Nat → Int64) (hk4 : qs_ok 4 5 4 60 I) (hp : (0 ≤ r ∧ r < 4)) (hn : ¬ I 5 (Int32.toNatClampNeg r) = -1) (hi : ¬ (0 ≤ i ∧ i < I 5 (Int32.toNatClampNeg r))) {d : Nat} (hd : 7 ≤ d) : qp_Met l G d 34 [.ref 0, .int r, .int i, .int v] (qp_mk I J) 0 0 (qp_R8 (some (.int (-3))) (qp_up (qp_up I 0 10 2) 35 2 ((I 35 2) + 1)) J) := by
  have hd1 : Nat.ble 1 d = true := Nat.ble_eq_true_of_le (Nat.le_trans (by decide) hd)
  refine qp_Met_of (by decide) (by rw [qp_r34.2]; rfl) [some (.ref 0), some (.int r), some (.int i), some (.int v), none, none] (by rw [qp_r34.2]; rfl) ?_
  refine qp_run_E qp_ok34 5 (c' := (7, [some (.ref 0), some (.int r), some (.int i), some (.int v), none, none], [.int i, .int r, .ref 4, .ref 0], qp_mk I J)) (by with_unfolding_all rfl) hd1 trivial ?_
  refine qp_cV qp_ok34 (rest := []) (oj := 0) qp_f17 rfl rfl (qx_rplY4 l G r i I J (by first | assumption | grind) (by first | assumption | grind) (by first | assumption | grind) (Nat.le_refl 6)) rfl rfl rfl rfl (Nat.le_trans (by decide) hd) ?_
  refine qp_run_E qp_ok34 2 (c' := (14, [some (.ref 0), some (.int r), some (.int i), some (.int v), some (.int (-3)), none], [.int (-3)], qp_mk (qp_up (qp_up I 0 10 2) 35 2 ((I 35 2) + 1)) J)) (by with_unfolding_all rfl) hd1 trivial ?_
  refine qp_br_E qp_ok34 (f := ((-3) : Int32) = 0) (cf := (17, [some (.ref 0), some (.int r), some (.int i), some (.int v), some (.int (-3)), none], [], qp_mk (qp_up (qp_up I 0 10 2) 35 2 ((I 35 2) + 1)) J)) (by with_unfolding_all rfl) (fun h => absurd h (by decide)) (fun _ => ?_)
  refine qp_run_E qp_ok34 1 (c' := (19, [some (.ref 0), some (.int r), some (.int i), some (.int v), some (.int (-3)), none], [.int (-3)], qp_mk (qp_up (qp_up I 0 10 2) 35 2 ((I 35 2) + 1)) J)) (by with_unfolding_all rfl) hd1 trivial ?_
  exact qp_retI_E qp_ok34 rfl qp_r34.1 ⟨rfl, rfl⟩ ⟨rfl, rfl⟩

theorem qx_putF (l : Launch) (G : qp_G) (r : Int32) (i : Int32) (v : Int32) (I : Nat → Nat → Int32) (J : Nat → Nat → Int64) (hk4 : qs_ok 4 5 4 60 I) (hp : (0 ≤ r ∧ r < 4)) (hn : ¬ I 5 (Int32.toNatClampNeg r) = -1) (hi : 0 ≤ i ∧ i < I 5 (Int32.toNatClampNeg r)) {d : Nat} (hd : 7 ≤ d) : qp_Met l G d 34 [.ref 0, .int r, .int i, .int v] (qp_mk I J) 0 0 (qp_R8 (some (.int ((I 6 (60 * (Int32.toNatClampNeg r) + (Int32.toNatClampNeg i))) + 1000))) (qp_up I 6 (60 * (Int32.toNatClampNeg r) + (Int32.toNatClampNeg i)) ((Int32.toInt8 v).toInt32)) J) := by
  have hd1 : Nat.ble 1 d = true := Nat.ble_eq_true_of_le (Nat.le_trans (by decide) hd)
  refine qp_Met_of (by decide) (by rw [qp_r34.2]; rfl) [some (.ref 0), some (.int r), some (.int i), some (.int v), none, none] (by rw [qp_r34.2]; rfl) ?_
  refine qp_run_E qp_ok34 5 (c' := (7, [some (.ref 0), some (.int r), some (.int i), some (.int v), none, none], [.int i, .int r, .ref 4, .ref 0], qp_mk I J)) (by with_unfolding_all rfl) hd1 trivial ?_
  refine qp_cV qp_ok34 (rest := []) (oj := 0) qp_f17 rfl rfl (qx_rplF4 l G r i I J (by first | assumption | grind) (by first | assumption | grind) (by first | assumption | grind) (Nat.le_refl 6)) rfl rfl rfl rfl (Nat.le_trans (by decide) hd) ?_
  refine qp_run_E qp_ok34 2 (c' := (14, [some (.ref 0), some (.int r), some (.int i), some (.int v), some (.int 0), none], [.int 0], qp_mk I J)) (by with_unfolding_all rfl) hd1 trivial ?_
  refine qp_br_E qp_ok34 (f := (0 : Int32) = 0) (ct := (20, [some (.ref 0), some (.int r), some (.int i), some (.int v), some (.int 0), none], [], qp_mk I J)) (by with_unfolding_all rfl) (fun _ => ?_) (fun h => absurd (by decide) h)
  refine qp_run_E qp_ok34 4 (c' := (26, [some (.ref 0), some (.int r), some (.int i), some (.int v), some (.int 0), none], [.int i, .int r, .ref 4], qp_mk I J)) (by with_unfolding_all rfl) hd1 trivial ?_
  refine qp_cV qp_ok34 (rest := []) (oj := 1) qp_f22 rfl rfl (qs_get4 l G r i I J hk4 (Nat.le_refl 3)) rfl rfl rfl rfl (Nat.le_trans (by decide) hd) ?_
  refine qp_run_E qp_ok34 7 (c' := (39, [some (.ref 0), some (.int r), some (.int i), some (.int v), some (.int 0), some (.int (if ((0 ≤ r ∧ r < 4) ∧ 0 ≤ i ∧ i < (I 5 (Int32.toNatClampNeg r))) then (I 6 (60 * (Int32.toNatClampNeg r) + (Int32.toNatClampNeg i))) else 0))], [.int ((Int32.toInt8 v).toInt32), .int i, .int r, .ref 4], qp_mk I J)) (by with_unfolding_all rfl) hd1 trivial ?_
  refine qp_cV qp_ok34 (rest := []) (oj := 1) qp_f23 rfl rfl (qs_set4 l G r i ((Int32.toInt8 v).toInt32) I J hk4 (by first | assumption | grind) (Nat.le_refl 3)) rfl rfl rfl rfl (Nat.le_trans (by decide) hd) ?_
  refine qp_run_E qp_ok34 3 (c' := (48, [some (.ref 0), some (.int r), some (.int i), some (.int v), some (.int 0), some (.int (if ((0 ≤ r ∧ r < 4) ∧ 0 ≤ i ∧ i < (I 5 (Int32.toNatClampNeg r))) then (I 6 (60 * (Int32.toNatClampNeg r) + (Int32.toNatClampNeg i))) else 0))], [.int ((if ((0 ≤ r ∧ r < 4) ∧ 0 ≤ i ∧ i < (I 5 (Int32.toNatClampNeg r))) then (I 6 (60 * (Int32.toNatClampNeg r) + (Int32.toNatClampNeg i))) else 0) + 1000)], qp_mk (qp_up I 6 (60 * (Int32.toNatClampNeg r) + (Int32.toNatClampNeg i)) ((Int32.toInt8 v).toInt32)) J)) (by with_unfolding_all rfl) hd1 trivial ?_
  exact qp_retI_E qp_ok34 rfl qp_r34.1 ⟨rfl, rfl⟩ ⟨by rw [if_pos ⟨hp, hi⟩], rfl⟩

theorem qx_tearB (l : Launch) (G : qp_G) (r : Int32) (I : Nat → Nat → Int32) (J : Nat → Nat → Int64) (hp : ¬ (0 ≤ r ∧ r < 6)) {d : Nat} (hd : 6 ≤ d) : qp_Met l G d 26 [.ref 0, .int r] (qp_mk I J) 0 0 (qp_R8 (some (.int (-1))) I J) := by
  have hd1 : Nat.ble 1 d = true := Nat.ble_eq_true_of_le (Nat.le_trans (by decide) hd)
  refine qp_Met_of (by decide) (by rw [qp_r26.2]; rfl) [some (.ref 0), some (.int r), none] (by rw [qp_r26.2]; rfl) ?_
  refine qp_run_E qp_ok26 4 (c' := (6, [some (.ref 0), some (.int r), none], [.int r, .ref 1, .ref 0], qp_mk I J)) (by with_unfolding_all rfl) hd1 trivial ?_
  refine qp_cV qp_ok26 (rest := []) (oj := 0) qp_f18 rfl rfl (qx_refB1 l G r I J (by first | assumption | grind) (Nat.le_refl 5)) rfl rfl rfl rfl (Nat.le_trans (by decide) hd) ?_
  refine qp_run_E qp_ok26 2 (c' := (11, [some (.ref 0), some (.int r), some (.int (-1))], [.int (-1)], qp_mk I J)) (by with_unfolding_all rfl) hd1 trivial ?_
  refine qp_br_E qp_ok26 (f := ((-1) : Int32) = 0) (cf := (14, [some (.ref 0), some (.int r), some (.int (-1))], [], qp_mk I J)) (by with_unfolding_all rfl) (fun h => absurd h (by decide)) (fun _ => ?_)
  refine qp_run_E qp_ok26 1 (c' := (15, [some (.ref 0), some (.int r), some (.int (-1))], [.int (-1)], qp_mk I J)) (by with_unfolding_all rfl) hd1 trivial ?_
  exact qp_retI_E qp_ok26 rfl qp_r26.1 ⟨rfl, rfl⟩ ⟨rfl, rfl⟩

theorem qx_tearN (l : Launch) (G : qp_G) (r : Int32) (I : Nat → Nat → Int32) (J : Nat → Nat → Int64) (hp : (0 ≤ r ∧ r < 6)) (hn : I 2 (Int32.toNatClampNeg r) = -1) {d : Nat} (hd : 6 ≤ d) : qp_Met l G d 26 [.ref 0, .int r] (qp_mk I J) 0 0 (qp_R8 (some (.int (-3))) (qp_up (qp_up I 0 10 1) 35 1 ((I 35 1) + 1)) J) := by
  have hd1 : Nat.ble 1 d = true := Nat.ble_eq_true_of_le (Nat.le_trans (by decide) hd)
  refine qp_Met_of (by decide) (by rw [qp_r26.2]; rfl) [some (.ref 0), some (.int r), none] (by rw [qp_r26.2]; rfl) ?_
  refine qp_run_E qp_ok26 4 (c' := (6, [some (.ref 0), some (.int r), none], [.int r, .ref 1, .ref 0], qp_mk I J)) (by with_unfolding_all rfl) hd1 trivial ?_
  refine qp_cV qp_ok26 (rest := []) (oj := 0) qp_f18 rfl rfl (qx_refN1 l G r I J (by first | assumption | grind) (by first | assumption | grind) (Nat.le_refl 5)) rfl rfl rfl rfl (Nat.le_trans (by decide) hd) ?_
  refine qp_run_E qp_ok26 2 (c' := (11, [some (.ref 0), some (.int r), some (.int (-3))], [.int (-3)], qp_mk (qp_up (qp_up I 0 10 1) 35 1 ((I 35 1) + 1)) J)) (by with_unfolding_all rfl) hd1 trivial ?_
  refine qp_br_E qp_ok26 (f := ((-3) : Int32) = 0) (cf := (14, [some (.ref 0), some (.int r), some (.int (-3))], [], qp_mk (qp_up (qp_up I 0 10 1) 35 1 ((I 35 1) + 1)) J)) (by with_unfolding_all rfl) (fun h => absurd h (by decide)) (fun _ => ?_)
  refine qp_run_E qp_ok26 1 (c' := (15, [some (.ref 0), some (.int r), some (.int (-3))], [.int (-3)], qp_mk (qp_up (qp_up I 0 10 1) 35 1 ((I 35 1) + 1)) J)) (by with_unfolding_all rfl) hd1 trivial ?_
  exact qp_retI_E qp_ok26 rfl qp_r26.1 ⟨rfl, rfl⟩ ⟨rfl, rfl⟩

theorem qx_tearF (l : Launch) (G : qp_G) (r : Int32) (I : Nat → Nat → Int32) (J : Nat → Nat → Int64) (hp : (0 ≤ r ∧ r < 6)) (hn : ¬ I 2 (Int32.toNatClampNeg r) = -1) {d : Nat} (hd : 6 ≤ d) : qp_Met l G d 26 [.ref 0, .int r] (qp_mk I J) 0 0 (qp_R8 (some (.int 1)) (qp_up I 2 (Int32.toNatClampNeg r) (-1)) J) := by
  have hd1 : Nat.ble 1 d = true := Nat.ble_eq_true_of_le (Nat.le_trans (by decide) hd)
  refine qp_Met_of (by decide) (by rw [qp_r26.2]; rfl) [some (.ref 0), some (.int r), none] (by rw [qp_r26.2]; rfl) ?_
  refine qp_run_E qp_ok26 4 (c' := (6, [some (.ref 0), some (.int r), none], [.int r, .ref 1, .ref 0], qp_mk I J)) (by with_unfolding_all rfl) hd1 trivial ?_
  refine qp_cV qp_ok26 (rest := []) (oj := 0) qp_f18 rfl rfl (qx_refF1 l G r I J (by first | assumption | grind) (by first | assumption | grind) (Nat.le_refl 5)) rfl rfl rfl rfl (Nat.le_trans (by decide) hd) ?_
  refine qp_run_E qp_ok26 2 (c' := (11, [some (.ref 0), some (.int r), some (.int 0)], [.int 0], qp_mk I J)) (by with_unfolding_all rfl) hd1 trivial ?_
  refine qp_br_E qp_ok26 (f := (0 : Int32) = 0) (ct := (16, [some (.ref 0), some (.int r), some (.int 0)], [], qp_mk I J)) (by with_unfolding_all rfl) (fun _ => ?_) (fun h => absurd (by decide) h)
  refine qp_run_E qp_ok26 3 (c' := (21, [some (.ref 0), some (.int r), some (.int 0)], [.int r, .ref 1], qp_mk I J)) (by with_unfolding_all rfl) hd1 trivial ?_
  refine qp_cV qp_ok26 (rest := []) (oj := 1) qp_f27 rfl rfl (qs_drop1 l G r I J (by first | assumption | grind) (Nat.le_refl 2)) rfl rfl rfl rfl (Nat.le_trans (by decide) hd) ?_
  refine qp_run_E qp_ok26 1 (c' := (25, [some (.ref 0), some (.int r), some (.int 0)], [.int 1], qp_mk (qp_up I 2 (Int32.toNatClampNeg r) (-1)) J)) (by with_unfolding_all rfl) hd1 trivial ?_
  exact qp_retI_E qp_ok26 rfl qp_r26.1 ⟨rfl, rfl⟩ ⟨rfl, rfl⟩

theorem qx_findings (l : Launch) (G : qp_G) (f : Int32) (I : Nat → Nat → Int32) (J : Nat → Nat → Int64)  {d : Nat} (hd : 1 ≤ d) : qp_Met l G d 143 [.ref 0, .int f] (qp_mk I J) 0 0 (qp_R8 (some (.int (if 1 ≤ f ∧ f ≤ 5 then I 35 (Int32.toNatClampNeg f) else -1))) I J) := by
  have hd1 : Nat.ble 1 d = true := Nat.ble_eq_true_of_le (Nat.le_trans (by decide) hd)
  refine qp_Met_of (by decide) (by rw [qp_r143.2]; rfl) [some (.ref 0), some (.int f)] (by rw [qp_r143.2]; rfl) ?_
  refine qp_run_E qp_ok143 2 (c' := (2, [some (.ref 0), some (.int f)], [.int 1, .int f], qp_mk I J)) (by with_unfolding_all rfl) hd1 trivial ?_
  refine qp_br_E qp_ok143 (f := f < 1) (ct := (19, [some (.ref 0), some (.int f)], [], qp_mk I J)) (cf := (5, [some (.ref 0), some (.int f)], [], qp_mk I J)) (by with_unfolding_all rfl) (fun h1 => ?_) (fun h1 => ?_)
  · refine qp_run_E qp_ok143 1 (c' := (20, [some (.ref 0), some (.int f)], [.int (-1)], qp_mk I J)) (by with_unfolding_all rfl) hd1 trivial ?_
    exact qp_retI_E qp_ok143 rfl qp_r143.1 ⟨rfl, rfl⟩ ⟨congrArg (fun z => some (Value.int z)) (by first | rw [if_pos (by grind)] | rw [if_neg (by grind)]), rfl⟩
  · refine qp_run_E qp_ok143 2 (c' := (7, [some (.ref 0), some (.int f)], [.int 5, .int f], qp_mk I J)) (by with_unfolding_all rfl) hd1 trivial ?_
    refine qp_br_E qp_ok143 (f := 5 < f) (ct := (19, [some (.ref 0), some (.int f)], [], qp_mk I J)) (cf := (10, [some (.ref 0), some (.int f)], [], qp_mk I J)) (by with_unfolding_all rfl) (fun h2 => ?_) (fun h2 => ?_)
    · refine qp_run_E qp_ok143 1 (c' := (20, [some (.ref 0), some (.int f)], [.int (-1)], qp_mk I J)) (by with_unfolding_all rfl) hd1 trivial ?_
      exact qp_retI_E qp_ok143 rfl qp_r143.1 ⟨rfl, rfl⟩ ⟨congrArg (fun z => some (Value.int z)) (by first | rw [if_pos (by grind)] | rw [if_neg (by grind)]), rfl⟩
    · refine qp_run_E qp_ok143 5 (f := vp_in f 6 ∧ True) (c' := (20, [some (.ref 0), some (.int f)], [.int (I 35 (Int32.toNatClampNeg f))], qp_mk I J)) (by with_unfolding_all rfl) hd1 ⟨(qp_vin (c := 6) (by decide) (by grind) (by grind)), trivial⟩ ?_
      exact qp_retI_E qp_ok143 rfl qp_r143.1 ⟨rfl, rfl⟩ ⟨congrArg (fun z => some (Value.int z)) (by first | rw [if_pos (by grind)] | rw [if_neg (by grind)]), rfl⟩
end
section
/-! METHODS AS FUNCTIONS of ints and longs: none where the machine would throw or the fuel ends -/
def qp_gd {β : Type} (c : Prop) [Decidable c] (x : Option β) : Option β := if c then x else none
theorem qp_gd_s {β : Type} {c : Prop} [Decidable c] {x : Option β} {r : β} (h : qp_gd c x = some r) : c ∧ x = some r := by
  unfold qp_gd at h
  split at h
  · next hc => exact ⟨hc, h⟩
  · cases h
theorem qp_gd_t {β : Type} {c : Prop} [Decidable c] {x : Option β} (h : c) : qp_gd c x = x := if_pos h
def qp_bd {α β : Type} (x : Option (α × (Nat → Nat → Int32) × (Nat → Nat → Int64))) (k : α → (Nat → Nat → Int32) → (Nat → Nat → Int64) → Option β) : Option β := match x with
  | some (v, I, J) => k v I J
  | none => none
theorem qp_bd_s {α β : Type} {x : Option (α × (Nat → Nat → Int32) × (Nat → Nat → Int64))} {k : α → (Nat → Nat → Int32) → (Nat → Nat → Int64) → Option β} {r : β} (h : qp_bd x k = some r) : ∃ v I J, x = some (v, I, J) ∧ k v I J = some r := by
  cases x with
  | none => cases h
  | some q => exact ⟨q.1, q.2.1, q.2.2, rfl, h⟩
theorem qp_bd_t {α β : Type} {v : α} {I : Nat → Nat → Int32} {J : Nat → Nat → Int64} {k : α → (Nat → Nat → Int32) → (Nat → Nat → Int64) → Option β} : qp_bd (some (v, I, J)) k = k v I J := rfl
theorem qp_ift {β : Type} {c : Prop} [Decidable c] {a b x : β} (hc : c) (h : (if c then a else b) = x) : a = x := by rw [if_pos hc] at h; exact h
theorem qp_iff {β : Type} {c : Prop} [Decidable c] {a b x : β} (hc : ¬ c) (h : (if c then a else b) = x) : b = x := by rw [if_neg hc] at h; exact h
theorem qp_nar01 {v : Int32} (h : v = 0 ∨ v = 1) : narrow .boolean (.int v) = .int v := by
  rcases h with rfl | rfl <;> rfl
/-- arraycopy between two int[] -/
abbrev qp_cpok (sp dp n : Int32) (n0 n1 : Nat) : Prop := ¬ sp < 0 ∧ ¬ dp < 0 ∧ ¬ n < 0 ∧ sp.toNatClampNeg + n.toNatClampNeg ≤ n0 ∧ dp.toNatClampNeg + n.toNatClampNeg ≤ n1
def qp_cpy (f : Nat → Nat → Int32) (r0 r1 : Nat) (sp dp n : Int32) : Nat → Nat → Int32 := fun k j => bif Nat.beq r1 k then va_cpy (f r0) (f r1) sp.toNatClampNeg dp.toNatClampNeg n.toNatClampNeg j else f k j
/-- the locals that are still asked for -/
def qp_msk : List Bool → List (Option Value) → List (Option Value)
  | true :: b, x :: t => x :: qp_msk b t
  | false :: b, _ :: t => none :: qp_msk b t
  | _, t => t
theorem qp_msk_len : ∀ (b : List Bool) (L : List (Option Value)), (qp_msk b L).length = L.length
  | true :: b, x :: t => by simp [qp_msk, qp_msk_len b t]
  | false :: b, x :: t => by simp [qp_msk, qp_msk_len b t]
  | [], L => by cases L <;> rfl
  | true :: b, [] => rfl
  | false :: b, [] => rfl
theorem qp_msk_at : ∀ (b : List Bool) (L : List (Option Value)) (i : Nat) (v : Value), (qp_msk b L)[i]? = some (some v) → L[i]? = some (some v)
  | true :: b, x :: t, 0, v, h => h
  | true :: b, x :: t, i + 1, v, h => by
    simp only [List.getElem?_cons_succ]
    exact qp_msk_at b t i v (by simpa [qp_msk] using h)
  | false :: b, x :: t, 0, v, h => by simp [qp_msk] at h
  | false :: b, x :: t, i + 1, v, h => by
    simp only [List.getElem?_cons_succ]
    exact qp_msk_at b t i v (by simpa [qp_msk] using h)
  | [], L, i, v, h => by cases L <;> exact h
  | true :: b, [], i, v, h => h
  | false :: b, [], i, v, h => h
section QPF
variable {l : Launch} {G : qp_G} {d mi : Nat} {M0 : qp_M} {mc ms : Nat} {Q : Option Value → qp_M → Prop} {K : List (List (Nat × Instr × Int32 × Nat))}
theorem qp_E_fg (b : List Bool) {pc : Nat} {L : List (Option Value)} {st : List Value} {M : qp_M} (k : qp_E l G d mi M0 mc ms Q (pc, qp_msk b L, st, M)) : qp_E l G d mi M0 mc ms Q (pc, L, st, M) := by
  intro p e s m args below meth cd ad0 X hr hlk ad H locs ls g1 g2 hP hD hS hls
  exact k p e s m args below meth cd ad0 X hr hlk ad H locs ls g1 g2 hP hD hS ⟨hls.1, hls.2.1, (qp_msk_len b L).trans hls.2.2.1, fun i v q => hls.2.2.2 i v (qp_msk_at b L i v q)⟩
theorem qp_E_pc {pc pc' : Nat} (e : pc = pc') {L : List (Option Value)} {st : List Value} {M : qp_M} (k : qp_E l G d mi M0 mc ms Q (pc', L, st, M)) : qp_E l G d mi M0 mc ms Q (pc, L, st, M) := by
  subst e; exact k
theorem qp_swt_df {df lo hi : Int} {lo' hi' : Int32} {offs : Array Int} {pc pc' : Nat} {x : Int32} (e : lo'.toInt = lo ∧ hi'.toInt = hi) (hp : ((pc : Int) + df).toNat = pc') (h : x < lo' ∨ hi' < x) : qp_swt df lo hi offs pc x = pc' := by
  unfold qp_swt
  rw [if_pos, hp]
  rw [← e.1, ← e.2]
  rcases h with h | h
  · exact Or.inl (Int32.lt_iff_toInt_lt.mp h)
  · exact Or.inr (Int32.lt_iff_toInt_lt.mp h)
theorem qp_cpy_e {G : qp_G} {M : qp_M} {ad : Nat → Nat} {r0 r1 : Nat} {sp dp n : Int32} (hb : (M.2.2.2.1 r1).1 = 50) : qp_e G (qp_cpy M.1 r0 r1 sp dp n, M.2) ad r1 = .inl (G.2.1, ((M.2.2.2.1 r1).2, .inl (va_cpy (M.1 r0) (M.1 r1) sp.toNatClampNeg dp.toNatClampNeg n.toNatClampNeg))) := by
  refine (qp_e_int (M := (qp_cpy M.1 r0 r1 sp dp n, M.2)) hb).trans ?_
  have e : qp_cpy M.1 r0 r1 sp dp n r1 = va_cpy (M.1 r0) (M.1 r1) sp.toNatClampNeg dp.toNatClampNeg n.toNatClampNeg := by
    funext j; unfold qp_cpy; rw [show Nat.beq r1 r1 = true from Nat.beq_refl r1]; rfl
  show Sum.inl (G.2.1, ((M.2.2.2.1 r1).2, Sum.inl (qp_cpy M.1 r0 r1 sp dp n r1))) = _
  rw [e]
theorem qp_cpy_row {f : Nat → Nat → Int32} {r0 r1 : Nat} {sp dp n : Int32} {k : Nat} (h : k ≠ r1) : qp_cpy f r0 r1 sp dp n k = f k := by
  funext j
  unfold qp_cpy
  have h0 : Nat.beq r1 k = false := Bool.eq_false_iff.mpr (fun q => h (Nat.eq_of_beq_eq_true q).symm)
  rw [h0]; rfl
theorem qp_cpy_E (hK : qp_ok (qp_o mi) (qp_b mi) K) {pc ix t r0 r1 : Nat} {v sp dp n : Int32} {L : List (Option Value)} {rest : List Value} {M : qp_M}
    (hf : qp_ft8 K pc = some (.invokestatic ix, v, t)) (h6 : Nat.beq (t % 10) 6 = true) (hb0 : (Nat.blt r0 M.2.2.2.2.1 && Nat.beq (M.2.2.2.1 r0).1 50 && (Nat.blt r1 M.2.2.2.2.1 && Nat.beq (M.2.2.2.1 r1).1 50)) = true) (hcat : Nat.ble (qp_cat rest) 8 = true)
    (h : qp_cpok sp dp n (M.2.2.2.1 r0).2 (M.2.2.2.1 r1).2) (hd : Nat.ble 1 d = true)
    (k : qp_E l G d mi M0 mc ms Q (pc + 3, L, rest, (qp_cpy M.1 r0 r1 sp dp n, M.2))) : qp_E l G d mi M0 mc ms Q (pc, L, .int n :: .int dp :: .ref r1 :: .int sp :: .ref r0 :: rest, M) := by
  intro p e s m args below meth cd ad0 X hr hlk ad H locs ls g1 g3 hP hD hS hl
  obtain ⟨hx, hb, hml, hown, hts, hin, hKk, hA, hZT, hN⟩ := id X
  obtain ⟨hdc, ho⟩ := hK _ _ hf
  have hlkp : qp_lk (qp_iR (qp_o mi)) ix = some t := by simpa [qp_opd] using ho
  have e6 : t % 10 = 6 := Nat.eq_of_beq_eq_true h6
  have hw := qp_mV hlkp (by unfold qp_nst; dsimp only; rw [e6]; rfl)
  have hw' : Cond.methodLink (qp_R (qp_o mi)) ix arraycopyName ∈ qp_tb := by
    have : qp_wiw (qp_o mi) (ix, t) = Cond.methodLink (qp_R (qp_o mi)) ix arraycopyName := by unfold qp_wiw; dsimp only; rw [e6]; rfl
    rw [← this]; exact hw
  obtain ⟨b0, b1⟩ := qp_and hb0
  obtain ⟨b2, b3⟩ := qp_and b0
  obtain ⟨b4, b5⟩ := qp_and b1
  have c0 := Nat.eq_of_beq_eq_true b3
  have c1 := Nat.eq_of_beq_eq_true b5
  have a0 := qp_w_at (G := G) (M := M) (ad := ad) (qp_blt b2)
  have a1 := qp_w_at (G := G) (M := M) (ad := ad) (qp_blt b4)
  rw [qp_e_int c0] at a0
  rw [qp_e_int c1] at a1
  have hd1 := Nat.le_of_ble_eq_true hd
  have hcat' := Nat.le_of_ble_eq_true hcat
  have hnf : nativeFrameWords "java/lang/System" "arraycopy" 5 ≤ 40 := by decide +kernel
  have hloc : ((rest.map (qp_tr ad)).map fun v => v.category).sum + (nativeFrameWords "java/lang/System" "arraycopy" 5 + 11) ≤ 64 * d := by rw [qp_cat_tr]; omega
  refine va_copyi (rest := rest.map (qp_tr ad)) (a0 := ad r0) (a := ad r1) hx hb (hml.trans hl.1.symm) hown (hts _ hw') (hts _ qp_mN1) (hts _ qp_mN2) (hts _ qp_mN3) hKk hP hD hS r0 r1 0 0 a0 a1 rfl rfl rfl h.1 h.2.1 h.2.2.1 h.2.2.2.1 h.2.2.2.2 (fun i _ => rfl) hd1 hloc hdc (fun H1 locs1 hP1 hD1 hS1 => ?_)
  have ee := qp_w_set (G := G) (M := M) (M' := (qp_cpy M.1 r0 r1 sp dp n, M.2)) (ad := ad) (r := r1) rfl (qp_cpy_e c1) (fun k' hk' => qp_e_same (qp_cpy_row hk') rfl rfl rfl)
  rw [ee] at hP1 hD1
  exact k p e s m args below meth cd ad0 X hr hlk ad H1 locs1 ls g1 g3 hP1 hD1 hS1 hl
end QPF
/-! what simplifies them -/
theorem qp_up_lit {α : Type} {f : Nat → Nat → α} {k j : Nat} {v : α} {k' j' : Nat} : qp_up f k j v k' j' = bif Nat.beq k k' && Nat.beq j j' then v else f k' j' := rfl
theorem qp_some3 {α β γ : Type} {a a' : α} {b b' : β} {c c' : γ} (h : some (a, b, c) = some (a', b', c')) : a = a' ∧ b = b' ∧ c = c' := by
  have q := Option.some.inj h
  exact ⟨congrArg (fun x => x.1) q, congrArg (fun x => x.2.1) q, congrArg (fun x => x.2.2) q⟩
end
section
/-! methods as functions, 0 -/
def fS_isNumber_1 (p1 : Int32) (I : Nat → Nat → Int32) (J : Nat → Nat → Int64) : Option (Int32 × (Nat → Nat → Int32) × (Nat → Nat → Int64)) :=
  if p1 < 0 then (
    some (0, I, J)
  ) else (
    if 6 ≤ p1 then (
      some (0, I, J)
    ) else (
      some (1, I, J)
    )
  )
set_option maxRecDepth 8000 in
theorem gS_isNumber_1 (l : Launch) (G : qp_G) (p1 : Int32) (I : Nat → Nat → Int32) (J : Nat → Nat → Int64) {v : Int32} {I' : Nat → Nat → Int32} {J' : Nat → Nat → Int64} (h : fS_isNumber_1 p1 I J = some (v, I', J')) {d : Nat} (hd : 1 ≤ d) : qp_Met l G d 13 [.ref 1, .int p1] (qp_mk I J) 0 0 (qp_R8 (some (.int v)) I' J') := by
  have hd1 : Nat.ble 1 d = true := Nat.ble_eq_true_of_le (Nat.le_trans (by decide) hd)
  refine qp_Met_of (by decide) (by rw [qp_r13.2]; rfl) [some (.ref 1), some (.int p1)] (by rw [qp_r13.2]; rfl) ?_
  unfold fS_isNumber_1 at h
  refine qp_run_E qp_ok13 1 (c' := (1, [some (.ref 1), some (.int p1)], [.int p1], qp_mk I J)) (by with_unfolding_all rfl) hd1 trivial ?_
  refine qp_br_E qp_ok13 (f := p1 < 0) (ct := (17, [some (.ref 1), some (.int p1)], [], qp_mk I J)) (cf := (4, [some (.ref 1), some (.int p1)], [], qp_mk I J)) (by with_unfolding_all rfl) (fun h1 => ?_) (fun h1 => ?_)
  · replace h := qp_ift h1 h
    refine qp_run_E qp_ok13 1 (c' := (18, [some (.ref 1), some (.int p1)], [.int 0], qp_mk I J)) (by with_unfolding_all rfl) hd1 trivial ?_
    obtain ⟨rfl, rfl, rfl⟩ := qp_some3 h
    exact qp_retZ_E qp_ok13 rfl qp_r13.1 rfl ⟨rfl, rfl⟩ ⟨rfl, rfl⟩
  · replace h := qp_iff h1 h
    refine qp_run_E qp_ok13 4 (c' := (10, [some (.ref 1), some (.int p1)], [.int 6, .int p1], qp_mk I J)) (by with_unfolding_all rfl) hd1 trivial ?_
    refine qp_br_E qp_ok13 (f := 6 ≤ p1) (ct := (17, [some (.ref 1), some (.int p1)], [], qp_mk I J)) (cf := (13, [some (.ref 1), some (.int p1)], [], qp_mk I J)) (by with_unfolding_all rfl) (fun h2 => ?_) (fun h2 => ?_)
    · replace h := qp_ift h2 h
      refine qp_run_E qp_ok13 1 (c' := (18, [some (.ref 1), some (.int p1)], [.int 0], qp_mk I J)) (by with_unfolding_all rfl) hd1 trivial ?_
      obtain ⟨rfl, rfl, rfl⟩ := qp_some3 h
      exact qp_retZ_E qp_ok13 rfl qp_r13.1 rfl ⟨rfl, rfl⟩ ⟨rfl, rfl⟩
    · replace h := qp_iff h2 h
      refine qp_run_E qp_ok13 2 (c' := (18, [some (.ref 1), some (.int p1)], [.int 1], qp_mk I J)) (by with_unfolding_all rfl) hd1 trivial ?_
      obtain ⟨rfl, rfl, rfl⟩ := qp_some3 h
      exact qp_retZ_E qp_ok13 rfl qp_r13.1 rfl ⟨rfl, rfl⟩ ⟨rfl, rfl⟩
def fS_fresh_1_b30  : Nat → Int32 → Int32 → Int32 → Int32 → (Nat → Nat → Int32) → (Nat → Nat → Int64) → Option (Unit × (Nat → Nat → Int32) × (Nat → Nat → Int64))
  | 0, _, _, _, _, _, _ => none
  | n + 1, a1, a2, a3, a4, I, J =>
    if a2 ≤ a4 then (
      some ((), I, J)
    ) else (
      qp_gd ((0 ≤ ((a1 * (I 1 0)) + a4) ∧ ((a1 * (I 1 0)) + a4) < 240)) <|
      fS_fresh_1_b30 n a1 a2 a3 (a4 + 1) (qp_up I 3 (Int32.toNatClampNeg ((a1 * (I 1 0)) + a4)) a3) J
    )
set_option maxRecDepth 8000 in
theorem gS_fresh_1_b30 {l : Launch} {G : qp_G} {d : Nat} (hd : 2 ≤ d) {r : (Unit × (Nat → Nat → Int32) × (Nat → Nat → Int64))} {I0 : Nat → Nat → Int32} {J0 : Nat → Nat → Int64}   : ∀ (n : Nat) (a1 : Int32) (a2 : Int32) (a3 : Int32) (a4 : Int32) (I : Nat → Nat → Int32) (J : Nat → Nat → Int64), fS_fresh_1_b30  n a1 a2 a3 a4 I J = some r → qp_E l G d 15 (qp_mk I0 J0) 0 0 (qp_R8 none r.2.1 r.2.2) (30, [some (.ref 1), some (.int a1), some (.int a2), some (.int a3), some (.int a4)], [], qp_mk I J) := by
  have hd1 : Nat.ble 1 d = true := Nat.ble_eq_true_of_le (Nat.le_trans (by decide) hd)
  intro n
  induction n with
  | zero => intro a1 a2 a3 a4 I J h; exact absurd h (by simp [fS_fresh_1_b30])
  | succ n ih =>
    intro a1 a2 a3 a4 I J h
    rw [fS_fresh_1_b30] at h
    refine qp_run_E qp_ok15 2 (c' := (33, [some (.ref 1), some (.int a1), some (.int a2), some (.int a3), some (.int a4)], [.int a2, .int a4], qp_mk I J)) (by with_unfolding_all rfl) hd1 trivial ?_
    refine qp_br_E qp_ok15 (f := a2 ≤ a4) (ct := (57, [some (.ref 1), some (.int a1), some (.int a2), some (.int a3), some (.int a4)], [], qp_mk I J)) (cf := (36, [some (.ref 1), some (.int a1), some (.int a2), some (.int a3), some (.int a4)], [], qp_mk I J)) (by with_unfolding_all rfl) (fun h1 => ?_) (fun h1 => ?_)
    · replace h := qp_ift h1 h
      obtain rfl := Option.some.inj h
      exact qp_retV_E qp_ok15 rfl qp_r15.1 ⟨rfl, rfl⟩ ⟨rfl, rfl⟩
    · replace h := qp_iff h1 h
      obtain ⟨h2, h⟩ := qp_gd_s h
      refine qp_run_E qp_ok15 12 (f := vp_in ((a1 * (I 1 0)) + a4) 240 ∧ True) (c' := (30, [some (.ref 1), some (.int a1), some (.int a2), some (.int a3), some (.int (a4 + 1))], [], qp_mk (qp_up I 3 (Int32.toNatClampNeg ((a1 * (I 1 0)) + a4)) a3) J)) (by with_unfolding_all rfl) hd1 ⟨(qp_vin (c := 240) (by decide) h2.1 h2.2), trivial⟩ ?_
      exact ih a1 a2 a3 (a4 + 1) (qp_up I 3 (Int32.toNatClampNeg ((a1 * (I 1 0)) + a4)) a3) J h
def fS_fresh_1 (p1 : Int32) (p2 : Int32) (p3 : Int32) (I : Nat → Nat → Int32) (J : Nat → Nat → Int64) : Option (Unit × (Nat → Nat → Int32) × (Nat → Nat → Int64)) :=
  qp_bd (fS_isNumber_1 p1 I J) fun v1 I1 J1 =>
  if v1 = 0 then (
    some ((), I1, J1)
  ) else (
    if p2 < 0 then (
      some ((), I1, J1)
    ) else (
      if (I1 1 0) < p2 then (
        some ((), I1, J1)
      ) else (
        qp_gd ((0 ≤ p1 ∧ p1 < 6)) <|
        fS_fresh_1_b30 100000 p1 p2 p3 0 (qp_up I1 2 (Int32.toNatClampNeg p1) p2) J1
      )
    )
  )
set_option maxRecDepth 8000 in
theorem gS_fresh_1 (l : Launch) (G : qp_G) (p1 : Int32) (p2 : Int32) (p3 : Int32) (I : Nat → Nat → Int32) (J : Nat → Nat → Int64) {v : Unit} {I' : Nat → Nat → Int32} {J' : Nat → Nat → Int64} (h : fS_fresh_1 p1 p2 p3 I J = some (v, I', J')) {d : Nat} (hd : 2 ≤ d) : qp_Met l G d 15 [.ref 1, .int p1, .int p2, .int p3] (qp_mk I J) 0 0 (qp_R8 none I' J') := by
  have hd1 : Nat.ble 1 d = true := Nat.ble_eq_true_of_le (Nat.le_trans (by decide) hd)
  refine qp_Met_of (by decide) (by rw [qp_r15.2]; rfl) [some (.ref 1), some (.int p1), some (.int p2), some (.int p3), none] (by rw [qp_r15.2]; rfl) ?_
  unfold fS_fresh_1 at h
  refine qp_run_E qp_ok15 2 (c' := (2, [some (.ref 1), some (.int p1), some (.int p2), some (.int p3), none], [.int p1, .ref 1], qp_mk I J)) (by with_unfolding_all rfl) hd1 trivial ?_
  obtain ⟨v1, I1, J1, e1, h⟩ := qp_bd_s h
  refine qp_cV qp_ok15 (rest := []) (oj := 1) qp_f13 rfl rfl (gS_isNumber_1 l G p1 I J e1 (Nat.le_refl 1)) rfl rfl rfl rfl (Nat.le_trans (by decide) hd) ?_
  refine qp_br_E qp_ok15 (f := v1 = 0) (ct := (57, [some (.ref 1), some (.int p1), some (.int p2), some (.int p3), none], [], qp_mk I1 J1)) (cf := (8, [some (.ref 1), some (.int p1), some (.int p2), some (.int p3), none], [], qp_mk I1 J1)) (by with_unfolding_all rfl) (fun h1 => ?_) (fun h1 => ?_)
  · replace h := qp_ift h1 h
    obtain ⟨rfl, rfl, rfl⟩ := qp_some3 h
    exact qp_retV_E qp_ok15 rfl qp_r15.1 ⟨rfl, rfl⟩ ⟨rfl, rfl⟩
  · replace h := qp_iff h1 h
    refine qp_run_E qp_ok15 1 (c' := (9, [some (.ref 1), some (.int p1), some (.int p2), some (.int p3), none], [.int p2], qp_mk I1 J1)) (by with_unfolding_all rfl) hd1 trivial ?_
    refine qp_br_E qp_ok15 (f := p2 < 0) (ct := (57, [some (.ref 1), some (.int p1), some (.int p2), some (.int p3), none], [], qp_mk I1 J1)) (cf := (12, [some (.ref 1), some (.int p1), some (.int p2), some (.int p3), none], [], qp_mk I1 J1)) (by with_unfolding_all rfl) (fun h2 => ?_) (fun h2 => ?_)
    · replace h := qp_ift h2 h
      obtain ⟨rfl, rfl, rfl⟩ := qp_some3 h
      exact qp_retV_E qp_ok15 rfl qp_r15.1 ⟨rfl, rfl⟩ ⟨rfl, rfl⟩
    · replace h := qp_iff h2 h
      refine qp_run_E qp_ok15 3 (c' := (17, [some (.ref 1), some (.int p1), some (.int p2), some (.int p3), none], [.int (I1 1 0), .int p2], qp_mk I1 J1)) (by with_unfolding_all rfl) hd1 trivial ?_
      refine qp_br_E qp_ok15 (f := (I1 1 0) < p2) (ct := (57, [some (.ref 1), some (.int p1), some (.int p2), some (.int p3), none], [], qp_mk I1 J1)) (cf := (20, [some (.ref 1), some (.int p1), some (.int p2), some (.int p3), none], [], qp_mk I1 J1)) (by with_unfolding_all rfl) (fun h3 => ?_) (fun h3 => ?_)
      · replace h := qp_ift h3 h
        obtain ⟨rfl, rfl, rfl⟩ := qp_some3 h
        exact qp_retV_E qp_ok15 rfl qp_r15.1 ⟨rfl, rfl⟩ ⟨rfl, rfl⟩
      · replace h := qp_iff h3 h
        obtain ⟨h4, h⟩ := qp_gd_s h
        refine qp_run_E qp_ok15 7 (f := vp_in p1 6 ∧ True) (c' := (30, [some (.ref 1), some (.int p1), some (.int p2), some (.int p3), some (.int 0)], [], qp_mk (qp_up I1 2 (Int32.toNatClampNeg p1) p2) J1)) (by with_unfolding_all rfl) hd1 ⟨(qp_vin (c := 6) (by decide) h4.1 h4.2), trivial⟩ ?_
        exact gS_fresh_1_b30 hd 100000 p1 p2 p3 0 (qp_up I1 2 (Int32.toNatClampNeg p1) p2) J1 h
def fX_found (p1 : Int32) (I : Nat → Nat → Int32) (J : Nat → Nat → Int64) : Option (Int32 × (Nat → Nat → Int32) × (Nat → Nat → Int64)) :=
  if p1 < 1 then (
    some ((-3), (qp_up I 0 10 p1), J)
  ) else (
    if 5 < p1 then (
      some ((-3), (qp_up I 0 10 p1), J)
    ) else (
      qp_gd ((0 ≤ p1 ∧ p1 < 6)) <|
      some ((-3), (qp_up (qp_up I 0 10 p1) 35 (Int32.toNatClampNeg p1) ((I 35 (Int32.toNatClampNeg p1)) + 1)), J)
    )
  )
set_option maxRecDepth 8000 in
theorem gX_found (l : Launch) (G : qp_G) (p1 : Int32) (I : Nat → Nat → Int32) (J : Nat → Nat → Int64) {v : Int32} {I' : Nat → Nat → Int32} {J' : Nat → Nat → Int64} (h : fX_found p1 I J = some (v, I', J')) {d : Nat} (hd : 1 ≤ d) : qp_Met l G d 14 [.ref 0, .int p1] (qp_mk I J) 0 0 (qp_R8 (some (.int v)) I' J') := by
  have hd1 : Nat.ble 1 d = true := Nat.ble_eq_true_of_le (Nat.le_trans (by decide) hd)
  refine qp_Met_of (by decide) (by rw [qp_r14.2]; rfl) [some (.ref 0), some (.int p1)] (by rw [qp_r14.2]; rfl) ?_
  unfold fX_found at h
  refine qp_run_E qp_ok14 5 (c' := (7, [some (.ref 0), some (.int p1)], [.int 1, .int p1], qp_mk (qp_up I 0 10 p1) J)) (by with_unfolding_all rfl) hd1 trivial ?_
  refine qp_br_E qp_ok14 (f := p1 < 1) (ct := (25, [some (.ref 0), some (.int p1)], [], qp_mk (qp_up I 0 10 p1) J)) (cf := (10, [some (.ref 0), some (.int p1)], [], qp_mk (qp_up I 0 10 p1) J)) (by with_unfolding_all rfl) (fun h1 => ?_) (fun h1 => ?_)
  · replace h := qp_ift h1 h
    refine qp_run_E qp_ok14 1 (c' := (27, [some (.ref 0), some (.int p1)], [.int (-3)], qp_mk (qp_up I 0 10 p1) J)) (by with_unfolding_all rfl) hd1 trivial ?_
    obtain ⟨rfl, rfl, rfl⟩ := qp_some3 h
    exact qp_retI_E qp_ok14 rfl qp_r14.1 ⟨rfl, rfl⟩ ⟨rfl, rfl⟩
  · replace h := qp_iff h1 h
    refine qp_run_E qp_ok14 2 (c' := (12, [some (.ref 0), some (.int p1)], [.int 5, .int p1], qp_mk (qp_up I 0 10 p1) J)) (by with_unfolding_all rfl) hd1 trivial ?_
    refine qp_br_E qp_ok14 (f := 5 < p1) (ct := (25, [some (.ref 0), some (.int p1)], [], qp_mk (qp_up I 0 10 p1) J)) (cf := (15, [some (.ref 0), some (.int p1)], [], qp_mk (qp_up I 0 10 p1) J)) (by with_unfolding_all rfl) (fun h2 => ?_) (fun h2 => ?_)
    · replace h := qp_ift h2 h
      refine qp_run_E qp_ok14 1 (c' := (27, [some (.ref 0), some (.int p1)], [.int (-3)], qp_mk (qp_up I 0 10 p1) J)) (by with_unfolding_all rfl) hd1 trivial ?_
      obtain ⟨rfl, rfl, rfl⟩ := qp_some3 h
      exact qp_retI_E qp_ok14 rfl qp_r14.1 ⟨rfl, rfl⟩ ⟨rfl, rfl⟩
    · replace h := qp_iff h2 h
      obtain ⟨h3, h⟩ := qp_gd_s h
      refine qp_run_E qp_ok14 9 (f := vp_in p1 6 ∧ vp_in p1 6 ∧ True) (c' := (27, [some (.ref 0), some (.int p1)], [.int (-3)], qp_mk (qp_up (qp_up I 0 10 p1) 35 (Int32.toNatClampNeg p1) ((I 35 (Int32.toNatClampNeg p1)) + 1)) J)) (by with_unfolding_all rfl) hd1 ⟨(qp_vin (c := 6) (by decide) h3.1 h3.2), (qp_vin (c := 6) (by decide) h3.1 h3.2), trivial⟩ ?_
      obtain ⟨rfl, rfl, rfl⟩ := qp_some3 h
      exact qp_retI_E qp_ok14 rfl qp_r14.1 ⟨rfl, rfl⟩ ⟨rfl, rfl⟩
def fX_anew_0_1 (p2 : Int32) (p3 : Int32) (p4 : Int32) (I : Nat → Nat → Int32) (J : Nat → Nat → Int64) : Option (Int32 × (Nat → Nat → Int32) × (Nat → Nat → Int64)) :=
  qp_bd (fS_isNumber_1 p2 I J) fun v1 I1 J1 =>
  if v1 = 0 then (
    some ((-1), I1, J1)
  ) else (
    if p3 ≤ (I1 1 0) then (
      if 0 ≤ p3 then (
        qp_bd (fS_fresh_1 p2 p3 p4 I1 J1) fun _u I2 J2 =>
        some (p3, I2, J2)
      ) else (
        qp_bd (fX_found 5 I1 J1) fun v3 I3 J3 =>
        some (v3, I3, J3)
      )
    ) else (
      some ((-1), I1, J1)
    )
  )
set_option maxRecDepth 8000 in
theorem gX_anew_0_1 (l : Launch) (G : qp_G) (p2 : Int32) (p3 : Int32) (p4 : Int32) (I : Nat → Nat → Int32) (J : Nat → Nat → Int64) {v : Int32} {I' : Nat → Nat → Int32} {J' : Nat → Nat → Int64} (h : fX_anew_0_1 p2 p3 p4 I J = some (v, I', J')) {d : Nat} (hd : 3 ≤ d) : qp_Met l G d 12 [.ref 0, .ref 1, .int p2, .int p3, .int p4] (qp_mk I J) 0 0 (qp_R8 (some (.int v)) I' J') := by
  have hd1 : Nat.ble 1 d = true := Nat.ble_eq_true_of_le (Nat.le_trans (by decide) hd)
  refine qp_Met_of (by decide) (by rw [qp_r12.2]; rfl) [some (.ref 0), some (.ref 1), some (.int p2), some (.int p3), some (.int p4)] (by rw [qp_r12.2]; rfl) ?_
  unfold fX_anew_0_1 at h
  refine qp_run_E qp_ok12 2 (c' := (2, [some (.ref 0), some (.ref 1), some (.int p2), some (.int p3), some (.int p4)], [.int p2, .ref 1], qp_mk I J)) (by with_unfolding_all rfl) hd1 trivial ?_
  obtain ⟨v1, I1, J1, e1, h⟩ := qp_bd_s h
  refine qp_cV qp_ok12 (rest := []) (oj := 1) qp_f13 rfl rfl (gS_isNumber_1 l G p2 I J e1 (Nat.le_refl 1)) rfl rfl rfl rfl (Nat.le_trans (by decide) hd) ?_
  refine qp_br_E qp_ok12 (f := v1 = 0) (ct := (16, [some (.ref 0), some (.ref 1), some (.int p2), some (.int p3), some (.int p4)], [], qp_mk I1 J1)) (cf := (8, [some (.ref 0), some (.ref 1), some (.int p2), some (.int p3), some (.int p4)], [], qp_mk I1 J1)) (by with_unfolding_all rfl) (fun h1 => ?_) (fun h1 => ?_)
  · replace h := qp_ift h1 h
    refine qp_run_E qp_ok12 1 (c' := (17, [some (.ref 0), some (.ref 1), some (.int p2), some (.int p3), some (.int p4)], [.int (-1)], qp_mk I1 J1)) (by with_unfolding_all rfl) hd1 trivial ?_
    obtain ⟨rfl, rfl, rfl⟩ := qp_some3 h
    exact qp_retI_E qp_ok12 rfl qp_r12.1 ⟨rfl, rfl⟩ ⟨rfl, rfl⟩
  · replace h := qp_iff h1 h
    refine qp_run_E qp_ok12 3 (c' := (13, [some (.ref 0), some (.ref 1), some (.int p2), some (.int p3), some (.int p4)], [.int (I1 1 0), .int p3], qp_mk I1 J1)) (by with_unfolding_all rfl) hd1 trivial ?_
    refine qp_br_E qp_ok12 (f := p3 ≤ (I1 1 0)) (ct := (18, [some (.ref 0), some (.ref 1), some (.int p2), some (.int p3), some (.int p4)], [], qp_mk I1 J1)) (cf := (16, [some (.ref 0), some (.ref 1), some (.int p2), some (.int p3), some (.int p4)], [], qp_mk I1 J1)) (by with_unfolding_all rfl) (fun h2 => ?_) (fun h2 => ?_)
    · replace h := qp_ift h2 h
      refine qp_run_E qp_ok12 1 (c' := (19, [some (.ref 0), some (.ref 1), some (.int p2), some (.int p3), some (.int p4)], [.int p3], qp_mk I1 J1)) (by with_unfolding_all rfl) hd1 trivial ?_
      refine qp_br_E qp_ok12 (f := 0 ≤ p3) (ct := (28, [some (.ref 0), some (.ref 1), some (.int p2), some (.int p3), some (.int p4)], [], qp_mk I1 J1)) (cf := (22, [some (.ref 0), some (.ref 1), some (.int p2), some (.int p3), some (.int p4)], [], qp_mk I1 J1)) (by with_unfolding_all rfl) (fun h3 => ?_) (fun h3 => ?_)
      · replace h := qp_ift h3 h
        refine qp_run_E qp_ok12 4 (c' := (33, [some (.ref 0), some (.ref 1), some (.int p2), some (.int p3), some (.int p4)], [.int p4, .int p3, .int p2, .ref 1], qp_mk I1 J1)) (by with_unfolding_all rfl) hd1 trivial ?_
        obtain ⟨v2, I2, J2, e2, h⟩ := qp_bd_s h
        refine qp_cV qp_ok12 (rest := []) (oj := 1) qp_f15 rfl rfl (gS_fresh_1 l G p2 p3 p4 I1 J1 e2 (Nat.le_refl 2)) rfl rfl rfl rfl (Nat.le_trans (by decide) hd) ?_
        refine qp_run_E qp_ok12 1 (c' := (37, [some (.ref 0), some (.ref 1), some (.int p2), some (.int p3), some (.int p4)], [.int p3], qp_mk I2 J2)) (by with_unfolding_all rfl) hd1 trivial ?_
        obtain ⟨rfl, rfl, rfl⟩ := qp_some3 h
        exact qp_retI_E qp_ok12 rfl qp_r12.1 ⟨rfl, rfl⟩ ⟨rfl, rfl⟩
      · replace h := qp_iff h3 h
        refine qp_run_E qp_ok12 2 (c' := (24, [some (.ref 0), some (.ref 1), some (.int p2), some (.int p3), some (.int p4)], [.int 5, .ref 0], qp_mk I1 J1)) (by with_unfolding_all rfl) hd1 trivial ?_
        obtain ⟨v3, I3, J3, e3, h⟩ := qp_bd_s h
        refine qp_cV qp_ok12 (rest := []) (oj := 0) qp_f14 rfl rfl (gX_found l G 5 I1 J1 e3 (Nat.le_refl 1)) rfl rfl rfl rfl (Nat.le_trans (by decide) hd) ?_
        obtain ⟨rfl, rfl, rfl⟩ := qp_some3 h
        exact qp_retI_E qp_ok12 rfl qp_r12.1 ⟨rfl, rfl⟩ ⟨rfl, rfl⟩
    · replace h := qp_iff h2 h
      refine qp_run_E qp_ok12 1 (c' := (17, [some (.ref 0), some (.ref 1), some (.int p2), some (.int p3), some (.int p4)], [.int (-1)], qp_mk I1 J1)) (by with_unfolding_all rfl) hd1 trivial ?_
      obtain ⟨rfl, rfl, rfl⟩ := qp_some3 h
      exact qp_retI_E qp_ok12 rfl qp_r12.1 ⟨rfl, rfl⟩ ⟨rfl, rfl⟩
def fX_row (p1 : Int32) (p2 : Int32) (I : Nat → Nat → Int32) (J : Nat → Nat → Int64) : Option (Int32 × (Nat → Nat → Int32) × (Nat → Nat → Int64)) :=
  qp_bd (fX_anew_0_1 p1 p2 0 I J) fun v1 I1 J1 =>
  some (v1, I1, J1)
set_option maxRecDepth 8000 in
theorem gX_row (l : Launch) (G : qp_G) (p1 : Int32) (p2 : Int32) (I : Nat → Nat → Int32) (J : Nat → Nat → Int64) {v : Int32} {I' : Nat → Nat → Int32} {J' : Nat → Nat → Int64} (h : fX_row p1 p2 I J = some (v, I', J')) {d : Nat} (hd : 4 ≤ d) : qp_Met l G d 11 [.ref 0, .int p1, .int p2] (qp_mk I J) 0 0 (qp_R8 (some (.int v)) I' J') := by
  have hd1 : Nat.ble 1 d = true := Nat.ble_eq_true_of_le (Nat.le_trans (by decide) hd)
  refine qp_Met_of (by decide) (by rw [qp_r11.2]; rfl) [some (.ref 0), some (.int p1), some (.int p2)] (by rw [qp_r11.2]; rfl) ?_
  unfold fX_row at h
  refine qp_run_E qp_ok11 6 (c' := (8, [some (.ref 0), some (.int p1), some (.int p2)], [.int 0, .int p2, .int p1, .ref 1, .ref 0], qp_mk I J)) (by with_unfolding_all rfl) hd1 trivial ?_
  obtain ⟨v1, I1, J1, e1, h⟩ := qp_bd_s h
  refine qp_cV qp_ok11 (rest := []) (oj := 0) qp_f12 rfl rfl (gX_anew_0_1 l G p1 p2 0 I J e1 (Nat.le_refl 3)) rfl rfl rfl rfl (Nat.le_trans (by decide) hd) ?_
  obtain ⟨rfl, rfl, rfl⟩ := qp_some3 h
  exact qp_retI_E qp_ok11 rfl qp_r11.1 ⟨rfl, rfl⟩ ⟨rfl, rfl⟩
def fS_sizeOf_1 (p1 : Int32) (I : Nat → Nat → Int32) (J : Nat → Nat → Int64) : Option (Int32 × (Nat → Nat → Int32) × (Nat → Nat → Int64)) :=
  qp_bd (fS_isNumber_1 p1 I J) fun v1 I1 J1 =>
  if v1 = 0 then (
    some ((-1), I1, J1)
  ) else (
    qp_gd ((0 ≤ p1 ∧ p1 < 6)) <|
    some ((I1 2 (Int32.toNatClampNeg p1)), I1, J1)
  )
set_option maxRecDepth 8000 in
theorem gS_sizeOf_1 (l : Launch) (G : qp_G) (p1 : Int32) (I : Nat → Nat → Int32) (J : Nat → Nat → Int64) {v : Int32} {I' : Nat → Nat → Int32} {J' : Nat → Nat → Int64} (h : fS_sizeOf_1 p1 I J = some (v, I', J')) {d : Nat} (hd : 2 ≤ d) : qp_Met l G d 20 [.ref 1, .int p1] (qp_mk I J) 0 0 (qp_R8 (some (.int v)) I' J') := by
  have hd1 : Nat.ble 1 d = true := Nat.ble_eq_true_of_le (Nat.le_trans (by decide) hd)
  refine qp_Met_of (by decide) (by rw [qp_r20.2]; rfl) [some (.ref 1), some (.int p1)] (by rw [qp_r20.2]; rfl) ?_
  unfold fS_sizeOf_1 at h
  refine qp_run_E qp_ok20 2 (c' := (2, [some (.ref 1), some (.int p1)], [.int p1, .ref 1], qp_mk I J)) (by with_unfolding_all rfl) hd1 trivial ?_
  obtain ⟨v1, I1, J1, e1, h⟩ := qp_bd_s h
  refine qp_cV qp_ok20 (rest := []) (oj := 1) qp_f13 rfl rfl (gS_isNumber_1 l G p1 I J e1 (Nat.le_refl 1)) rfl rfl rfl rfl (Nat.le_trans (by decide) hd) ?_
  refine qp_br_E qp_ok20 (f := v1 = 0) (ct := (17, [some (.ref 1), some (.int p1)], [], qp_mk I1 J1)) (cf := (8, [some (.ref 1), some (.int p1)], [], qp_mk I1 J1)) (by with_unfolding_all rfl) (fun h1 => ?_) (fun h1 => ?_)
  · replace h := qp_ift h1 h
    refine qp_run_E qp_ok20 1 (c' := (18, [some (.ref 1), some (.int p1)], [.int (-1)], qp_mk I1 J1)) (by with_unfolding_all rfl) hd1 trivial ?_
    obtain ⟨rfl, rfl, rfl⟩ := qp_some3 h
    exact qp_retI_E qp_ok20 rfl qp_r20.1 ⟨rfl, rfl⟩ ⟨rfl, rfl⟩
  · replace h := qp_iff h1 h
    obtain ⟨h2, h⟩ := qp_gd_s h
    refine qp_run_E qp_ok20 5 (f := vp_in p1 6 ∧ True) (c' := (18, [some (.ref 1), some (.int p1)], [.int (I1 2 (Int32.toNatClampNeg p1))], qp_mk I1 J1)) (by with_unfolding_all rfl) hd1 ⟨(qp_vin (c := 6) (by decide) h2.1 h2.2), trivial⟩ ?_
    obtain ⟨rfl, rfl, rfl⟩ := qp_some3 h
    exact qp_retI_E qp_ok20 rfl qp_r20.1 ⟨rfl, rfl⟩ ⟨rfl, rfl⟩
def fS_has_1 (p1 : Int32) (I : Nat → Nat → Int32) (J : Nat → Nat → Int64) : Option (Int32 × (Nat → Nat → Int32) × (Nat → Nat → Int64)) :=
  qp_bd (fS_sizeOf_1 p1 I J) fun v1 I1 J1 =>
  if v1 = (-1) then (
    some (0, I1, J1)
  ) else (
    some (1, I1, J1)
  )
set_option maxRecDepth 8000 in
theorem gS_has_1 (l : Launch) (G : qp_G) (p1 : Int32) (I : Nat → Nat → Int32) (J : Nat → Nat → Int64) {v : Int32} {I' : Nat → Nat → Int32} {J' : Nat → Nat → Int64} (h : fS_has_1 p1 I J = some (v, I', J')) {d : Nat} (hd : 3 ≤ d) : qp_Met l G d 19 [.ref 1, .int p1] (qp_mk I J) 0 0 (qp_R8 (some (.int v)) I' J') := by
  have hd1 : Nat.ble 1 d = true := Nat.ble_eq_true_of_le (Nat.le_trans (by decide) hd)
  refine qp_Met_of (by decide) (by rw [qp_r19.2]; rfl) [some (.ref 1), some (.int p1)] (by rw [qp_r19.2]; rfl) ?_
  unfold fS_has_1 at h
  refine qp_run_E qp_ok19 2 (c' := (2, [some (.ref 1), some (.int p1)], [.int p1, .ref 1], qp_mk I J)) (by with_unfolding_all rfl) hd1 trivial ?_
  obtain ⟨v1, I1, J1, e1, h⟩ := qp_bd_s h
  refine qp_cV qp_ok19 (rest := []) (oj := 1) qp_f20 rfl rfl (gS_sizeOf_1 l G p1 I J e1 (Nat.le_refl 2)) rfl rfl rfl rfl (Nat.le_trans (by decide) hd) ?_
  refine qp_run_E qp_ok19 1 (c' := (6, [some (.ref 1), some (.int p1)], [.int (-1), .int v1], qp_mk I1 J1)) (by with_unfolding_all rfl) hd1 trivial ?_
  refine qp_br_E qp_ok19 (f := v1 = (-1)) (ct := (13, [some (.ref 1), some (.int p1)], [], qp_mk I1 J1)) (cf := (9, [some (.ref 1), some (.int p1)], [], qp_mk I1 J1)) (by with_unfolding_all rfl) (fun h1 => ?_) (fun h1 => ?_)
  · replace h := qp_ift h1 h
    refine qp_run_E qp_ok19 1 (c' := (14, [some (.ref 1), some (.int p1)], [.int 0], qp_mk I1 J1)) (by with_unfolding_all rfl) hd1 trivial ?_
    obtain ⟨rfl, rfl, rfl⟩ := qp_some3 h
    exact qp_retZ_E qp_ok19 rfl qp_r19.1 rfl ⟨rfl, rfl⟩ ⟨rfl, rfl⟩
  · replace h := qp_iff h1 h
    refine qp_run_E qp_ok19 2 (c' := (14, [some (.ref 1), some (.int p1)], [.int 1], qp_mk I1 J1)) (by with_unfolding_all rfl) hd1 trivial ?_
    obtain ⟨rfl, rfl, rfl⟩ := qp_some3 h
    exact qp_retZ_E qp_ok19 rfl qp_r19.1 rfl ⟨rfl, rfl⟩ ⟨rfl, rfl⟩
def fX_refusalOf_0_1 (p2 : Int32) (I : Nat → Nat → Int32) (J : Nat → Nat → Int64) : Option (Int32 × (Nat → Nat → Int32) × (Nat → Nat → Int64)) :=
  qp_bd (fS_isNumber_1 p2 I J) fun v1 I1 J1 =>
  if ¬ v1 = 0 then (
    qp_bd (fS_has_1 p2 I1 J1) fun v2 I2 J2 =>
    if v2 = 0 then (
      qp_bd (fX_found 1 I2 J2) fun v3 I3 J3 =>
      some (v3, I3, J3)
    ) else (
      some (0, I2, J2)
    )
  ) else (
    some ((-1), I1, J1)
  )
set_option maxRecDepth 8000 in
theorem gX_refusalOf_0_1 (l : Launch) (G : qp_G) (p2 : Int32) (I : Nat → Nat → Int32) (J : Nat → Nat → Int64) {v : Int32} {I' : Nat → Nat → Int32} {J' : Nat → Nat → Int64} (h : fX_refusalOf_0_1 p2 I J = some (v, I', J')) {d : Nat} (hd : 4 ≤ d) : qp_Met l G d 18 [.ref 0, .ref 1, .int p2] (qp_mk I J) 0 0 (qp_R8 (some (.int v)) I' J') := by
  have hd1 : Nat.ble 1 d = true := Nat.ble_eq_true_of_le (Nat.le_trans (by decide) hd)
  refine qp_Met_of (by decide) (by rw [qp_r18.2]; rfl) [some (.ref 0), some (.ref 1), some (.int p2)] (by rw [qp_r18.2]; rfl) ?_
  unfold fX_refusalOf_0_1 at h
  refine qp_run_E qp_ok18 2 (c' := (2, [some (.ref 0), some (.ref 1), some (.int p2)], [.int p2, .ref 1], qp_mk I J)) (by with_unfolding_all rfl) hd1 trivial ?_
  obtain ⟨v1, I1, J1, e1, h⟩ := qp_bd_s h
  refine qp_cV qp_ok18 (rest := []) (oj := 1) qp_f13 rfl rfl (gS_isNumber_1 l G p2 I J e1 (Nat.le_refl 1)) rfl rfl rfl rfl (Nat.le_trans (by decide) hd) ?_
  refine qp_br_E qp_ok18 (f := ¬ v1 = 0) (ct := (10, [some (.ref 0), some (.ref 1), some (.int p2)], [], qp_mk I1 J1)) (cf := (8, [some (.ref 0), some (.ref 1), some (.int p2)], [], qp_mk I1 J1)) (by with_unfolding_all rfl) (fun h1 => ?_) (fun h1 => ?_)
  · replace h := qp_ift h1 h
    refine qp_run_E qp_ok18 2 (c' := (12, [some (.ref 0), some (.ref 1), some (.int p2)], [.int p2, .ref 1], qp_mk I1 J1)) (by with_unfolding_all rfl) hd1 trivial ?_
    obtain ⟨v2, I2, J2, e2, h⟩ := qp_bd_s h
    refine qp_cV qp_ok18 (rest := []) (oj := 1) qp_f19 rfl rfl (gS_has_1 l G p2 I1 J1 e2 (Nat.le_refl 3)) rfl rfl rfl rfl (Nat.le_trans (by decide) hd) ?_
    refine qp_br_E qp_ok18 (f := v2 = 0) (ct := (22, [some (.ref 0), some (.ref 1), some (.int p2)], [], qp_mk I2 J2)) (cf := (18, [some (.ref 0), some (.ref 1), some (.int p2)], [], qp_mk I2 J2)) (by with_unfolding_all rfl) (fun h2 => ?_) (fun h2 => ?_)
    · replace h := qp_ift h2 h
      refine qp_run_E qp_ok18 2 (c' := (24, [some (.ref 0), some (.ref 1), some (.int p2)], [.int 1, .ref 0], qp_mk I2 J2)) (by with_unfolding_all rfl) hd1 trivial ?_
      obtain ⟨v3, I3, J3, e3, h⟩ := qp_bd_s h
      refine qp_cV qp_ok18 (rest := []) (oj := 0) qp_f14 rfl rfl (gX_found l G 1 I2 J2 e3 (Nat.le_refl 1)) rfl rfl rfl rfl (Nat.le_trans (by decide) hd) ?_
      obtain ⟨rfl, rfl, rfl⟩ := qp_some3 h
      exact qp_retI_E qp_ok18 rfl qp_r18.1 ⟨rfl, rfl⟩ ⟨rfl, rfl⟩
    · replace h := qp_iff h2 h
      refine qp_run_E qp_ok18 2 (c' := (27, [some (.ref 0), some (.ref 1), some (.int p2)], [.int 0], qp_mk I2 J2)) (by with_unfolding_all rfl) hd1 trivial ?_
      obtain ⟨rfl, rfl, rfl⟩ := qp_some3 h
      exact qp_retI_E qp_ok18 rfl qp_r18.1 ⟨rfl, rfl⟩ ⟨rfl, rfl⟩
  · replace h := qp_iff h1 h
    refine qp_run_E qp_ok18 1 (c' := (9, [some (.ref 0), some (.ref 1), some (.int p2)], [.int (-1)], qp_mk I1 J1)) (by with_unfolding_all rfl) hd1 trivial ?_
    obtain ⟨rfl, rfl, rfl⟩ := qp_some3 h
    exact qp_retI_E qp_ok18 rfl qp_r18.1 ⟨rfl, rfl⟩ ⟨rfl, rfl⟩
def fS_hasPlace_1 (p1 : Int32) (p2 : Int32) (I : Nat → Nat → Int32) (J : Nat → Nat → Int64) : Option (Int32 × (Nat → Nat → Int32) × (Nat → Nat → Int64)) :=
  qp_bd (fS_isNumber_1 p1 I J) fun v1 I1 J1 =>
  if v1 = 0 then (
    some (0, I1, J1)
  ) else (
    if p2 < 0 then (
      some (0, I1, J1)
    ) else (
      qp_gd ((0 ≤ p1 ∧ p1 < 6)) <|
      if (I1 2 (Int32.toNatClampNeg p1)) ≤ p2 then (
        some (0, I1, J1)
      ) else (
        some (1, I1, J1)
      )
    )
  )
set_option maxRecDepth 8000 in
theorem gS_hasPlace_1 (l : Launch) (G : qp_G) (p1 : Int32) (p2 : Int32) (I : Nat → Nat → Int32) (J : Nat → Nat → Int64) {v : Int32} {I' : Nat → Nat → Int32} {J' : Nat → Nat → Int64} (h : fS_hasPlace_1 p1 p2 I J = some (v, I', J')) {d : Nat} (hd : 2 ≤ d) : qp_Met l G d 21 [.ref 1, .int p1, .int p2] (qp_mk I J) 0 0 (qp_R8 (some (.int v)) I' J') := by
  have hd1 : Nat.ble 1 d = true := Nat.ble_eq_true_of_le (Nat.le_trans (by decide) hd)
  refine qp_Met_of (by decide) (by rw [qp_r21.2]; rfl) [some (.ref 1), some (.int p1), some (.int p2)] (by rw [qp_r21.2]; rfl) ?_
  unfold fS_hasPlace_1 at h
  refine qp_run_E qp_ok21 2 (c' := (2, [some (.ref 1), some (.int p1), some (.int p2)], [.int p1, .ref 1], qp_mk I J)) (by with_unfolding_all rfl) hd1 trivial ?_
  obtain ⟨v1, I1, J1, e1, h⟩ := qp_bd_s h
  refine qp_cV qp_ok21 (rest := []) (oj := 1) qp_f13 rfl rfl (gS_isNumber_1 l G p1 I J e1 (Nat.le_refl 1)) rfl rfl rfl rfl (Nat.le_trans (by decide) hd) ?_
  refine qp_br_E qp_ok21 (f := v1 = 0) (ct := (26, [some (.ref 1), some (.int p1), some (.int p2)], [], qp_mk I1 J1)) (cf := (8, [some (.ref 1), some (.int p1), some (.int p2)], [], qp_mk I1 J1)) (by with_unfolding_all rfl) (fun h1 => ?_) (fun h1 => ?_)
  · replace h := qp_ift h1 h
    refine qp_run_E qp_ok21 1 (c' := (27, [some (.ref 1), some (.int p1), some (.int p2)], [.int 0], qp_mk I1 J1)) (by with_unfolding_all rfl) hd1 trivial ?_
    obtain ⟨rfl, rfl, rfl⟩ := qp_some3 h
    exact qp_retZ_E qp_ok21 rfl qp_r21.1 rfl ⟨rfl, rfl⟩ ⟨rfl, rfl⟩
  · replace h := qp_iff h1 h
    refine qp_run_E qp_ok21 1 (c' := (9, [some (.ref 1), some (.int p1), some (.int p2)], [.int p2], qp_mk I1 J1)) (by with_unfolding_all rfl) hd1 trivial ?_
    refine qp_br_E qp_ok21 (f := p2 < 0) (ct := (26, [some (.ref 1), some (.int p1), some (.int p2)], [], qp_mk I1 J1)) (cf := (12, [some (.ref 1), some (.int p1), some (.int p2)], [], qp_mk I1 J1)) (by with_unfolding_all rfl) (fun h2 => ?_) (fun h2 => ?_)
    · replace h := qp_ift h2 h
      refine qp_run_E qp_ok21 1 (c' := (27, [some (.ref 1), some (.int p1), some (.int p2)], [.int 0], qp_mk I1 J1)) (by with_unfolding_all rfl) hd1 trivial ?_
      obtain ⟨rfl, rfl, rfl⟩ := qp_some3 h
      exact qp_retZ_E qp_ok21 rfl qp_r21.1 rfl ⟨rfl, rfl⟩ ⟨rfl, rfl⟩
    · replace h := qp_iff h2 h
      obtain ⟨h3, h⟩ := qp_gd_s h
      refine qp_run_E qp_ok21 5 (f := vp_in p1 6 ∧ True) (c' := (19, [some (.ref 1), some (.int p1), some (.int p2)], [.int (I1 2 (Int32.toNatClampNeg p1)), .int p2], qp_mk I1 J1)) (by with_unfolding_all rfl) hd1 ⟨(qp_vin (c := 6) (by decide) h3.1 h3.2), trivial⟩ ?_
      refine qp_br_E qp_ok21 (f := (I1 2 (Int32.toNatClampNeg p1)) ≤ p2) (ct := (26, [some (.ref 1), some (.int p1), some (.int p2)], [], qp_mk I1 J1)) (cf := (22, [some (.ref 1), some (.int p1), some (.int p2)], [], qp_mk I1 J1)) (by with_unfolding_all rfl) (fun h4 => ?_) (fun h4 => ?_)
      · replace h := qp_ift h4 h
        refine qp_run_E qp_ok21 1 (c' := (27, [some (.ref 1), some (.int p1), some (.int p2)], [.int 0], qp_mk I1 J1)) (by with_unfolding_all rfl) hd1 trivial ?_
        obtain ⟨rfl, rfl, rfl⟩ := qp_some3 h
        exact qp_retZ_E qp_ok21 rfl qp_r21.1 rfl ⟨rfl, rfl⟩ ⟨rfl, rfl⟩
      · replace h := qp_iff h4 h
        refine qp_run_E qp_ok21 2 (c' := (27, [some (.ref 1), some (.int p1), some (.int p2)], [.int 1], qp_mk I1 J1)) (by with_unfolding_all rfl) hd1 trivial ?_
        obtain ⟨rfl, rfl, rfl⟩ := qp_some3 h
        exact qp_retZ_E qp_ok21 rfl qp_r21.1 rfl ⟨rfl, rfl⟩ ⟨rfl, rfl⟩
def fX_refusalOfPlace_0_1 (p2 : Int32) (p3 : Int32) (I : Nat → Nat → Int32) (J : Nat → Nat → Int64) : Option (Int32 × (Nat → Nat → Int32) × (Nat → Nat → Int64)) :=
  qp_bd (fX_refusalOf_0_1 p2 I J) fun v1 I1 J1 =>
  if v1 = 0 then (
    qp_bd (fS_hasPlace_1 p2 p3 I1 J1) fun v2 I2 J2 =>
    if v2 = 0 then (
      qp_bd (fX_found 2 I2 J2) fun v3 I3 J3 =>
      some (v3, I3, J3)
    ) else (
      some (0, I2, J2)
    )
  ) else (
    some (v1, I1, J1)
  )
set_option maxRecDepth 8000 in
theorem gX_refusalOfPlace_0_1 (l : Launch) (G : qp_G) (p2 : Int32) (p3 : Int32) (I : Nat → Nat → Int32) (J : Nat → Nat → Int64) {v : Int32} {I' : Nat → Nat → Int32} {J' : Nat → Nat → Int64} (h : fX_refusalOfPlace_0_1 p2 p3 I J = some (v, I', J')) {d : Nat} (hd : 5 ≤ d) : qp_Met l G d 17 [.ref 0, .ref 1, .int p2, .int p3] (qp_mk I J) 0 0 (qp_R8 (some (.int v)) I' J') := by
  have hd1 : Nat.ble 1 d = true := Nat.ble_eq_true_of_le (Nat.le_trans (by decide) hd)
  refine qp_Met_of (by decide) (by rw [qp_r17.2]; rfl) [some (.ref 0), some (.ref 1), some (.int p2), some (.int p3), none] (by rw [qp_r17.2]; rfl) ?_
  unfold fX_refusalOfPlace_0_1 at h
  refine qp_run_E qp_ok17 3 (c' := (3, [some (.ref 0), some (.ref 1), some (.int p2), some (.int p3), none], [.int p2, .ref 1, .ref 0], qp_mk I J)) (by with_unfolding_all rfl) hd1 trivial ?_
  obtain ⟨v1, I1, J1, e1, h⟩ := qp_bd_s h
  refine qp_cV qp_ok17 (rest := []) (oj := 0) qp_f18 rfl rfl (gX_refusalOf_0_1 l G p2 I J e1 (Nat.le_refl 4)) rfl rfl rfl rfl (Nat.le_trans (by decide) hd) ?_
  refine qp_run_E qp_ok17 2 (c' := (10, [some (.ref 0), some (.ref 1), some (.int p2), some (.int p3), some (.int v1)], [.int v1], qp_mk I1 J1)) (by with_unfolding_all rfl) hd1 trivial ?_
  refine qp_br_E qp_ok17 (f := v1 = 0) (ct := (16, [some (.ref 0), some (.ref 1), some (.int p2), some (.int p3), some (.int v1)], [], qp_mk I1 J1)) (cf := (13, [some (.ref 0), some (.ref 1), some (.int p2), some (.int p3), some (.int v1)], [], qp_mk I1 J1)) (by with_unfolding_all rfl) (fun h1 => ?_) (fun h1 => ?_)
  · replace h := qp_ift h1 h
    refine qp_run_E qp_ok17 3 (c' := (19, [some (.ref 0), some (.ref 1), some (.int p2), some (.int p3), some (.int v1)], [.int p3, .int p2, .ref 1], qp_mk I1 J1)) (by with_unfolding_all rfl) hd1 trivial ?_
    obtain ⟨v2, I2, J2, e2, h⟩ := qp_bd_s h
    refine qp_cV qp_ok17 (rest := []) (oj := 1) qp_f21 rfl rfl (gS_hasPlace_1 l G p2 p3 I1 J1 e2 (Nat.le_refl 2)) rfl rfl rfl rfl (Nat.le_trans (by decide) hd) ?_
    refine qp_br_E qp_ok17 (f := v2 = 0) (ct := (29, [some (.ref 0), some (.ref 1), some (.int p2), some (.int p3), some (.int v1)], [], qp_mk I2 J2)) (cf := (25, [some (.ref 0), some (.ref 1), some (.int p2), some (.int p3), some (.int v1)], [], qp_mk I2 J2)) (by with_unfolding_all rfl) (fun h2 => ?_) (fun h2 => ?_)
    · replace h := qp_ift h2 h
      refine qp_run_E qp_ok17 2 (c' := (31, [some (.ref 0), some (.ref 1), some (.int p2), some (.int p3), some (.int v1)], [.int 2, .ref 0], qp_mk I2 J2)) (by with_unfolding_all rfl) hd1 trivial ?_
      obtain ⟨v3, I3, J3, e3, h⟩ := qp_bd_s h
      refine qp_cV qp_ok17 (rest := []) (oj := 0) qp_f14 rfl rfl (gX_found l G 2 I2 J2 e3 (Nat.le_refl 1)) rfl rfl rfl rfl (Nat.le_trans (by decide) hd) ?_
      obtain ⟨rfl, rfl, rfl⟩ := qp_some3 h
      exact qp_retI_E qp_ok17 rfl qp_r17.1 ⟨rfl, rfl⟩ ⟨rfl, rfl⟩
    · replace h := qp_iff h2 h
      refine qp_run_E qp_ok17 2 (c' := (34, [some (.ref 0), some (.ref 1), some (.int p2), some (.int p3), some (.int v1)], [.int 0], qp_mk I2 J2)) (by with_unfolding_all rfl) hd1 trivial ?_
      obtain ⟨rfl, rfl, rfl⟩ := qp_some3 h
      exact qp_retI_E qp_ok17 rfl qp_r17.1 ⟨rfl, rfl⟩ ⟨rfl, rfl⟩
  · replace h := qp_iff h1 h
    refine qp_run_E qp_ok17 1 (c' := (15, [some (.ref 0), some (.ref 1), some (.int p2), some (.int p3), some (.int v1)], [.int v1], qp_mk I1 J1)) (by with_unfolding_all rfl) hd1 trivial ?_
    obtain ⟨rfl, rfl, rfl⟩ := qp_some3 h
    exact qp_retI_E qp_ok17 rfl qp_r17.1 ⟨rfl, rfl⟩ ⟨rfl, rfl⟩
def fS_get_1 (p1 : Int32) (p2 : Int32) (I : Nat → Nat → Int32) (J : Nat → Nat → Int64) : Option (Int32 × (Nat → Nat → Int32) × (Nat → Nat → Int64)) :=
  qp_bd (fS_hasPlace_1 p1 p2 I J) fun v1 I1 J1 =>
  if v1 = 0 then (
    some (0, I1, J1)
  ) else (
    qp_gd ((0 ≤ ((p1 * (I1 1 0)) + p2) ∧ ((p1 * (I1 1 0)) + p2) < 240)) <|
    some ((I1 3 (Int32.toNatClampNeg ((p1 * (I1 1 0)) + p2))), I1, J1)
  )
set_option maxRecDepth 8000 in
theorem gS_get_1 (l : Launch) (G : qp_G) (p1 : Int32) (p2 : Int32) (I : Nat → Nat → Int32) (J : Nat → Nat → Int64) {v : Int32} {I' : Nat → Nat → Int32} {J' : Nat → Nat → Int64} (h : fS_get_1 p1 p2 I J = some (v, I', J')) {d : Nat} (hd : 3 ≤ d) : qp_Met l G d 22 [.ref 1, .int p1, .int p2] (qp_mk I J) 0 0 (qp_R8 (some (.int v)) I' J') := by
  have hd1 : Nat.ble 1 d = true := Nat.ble_eq_true_of_le (Nat.le_trans (by decide) hd)
  refine qp_Met_of (by decide) (by rw [qp_r22.2]; rfl) [some (.ref 1), some (.int p1), some (.int p2)] (by rw [qp_r22.2]; rfl) ?_
  unfold fS_get_1 at h
  refine qp_run_E qp_ok22 3 (c' := (3, [some (.ref 1), some (.int p1), some (.int p2)], [.int p2, .int p1, .ref 1], qp_mk I J)) (by with_unfolding_all rfl) hd1 trivial ?_
  obtain ⟨v1, I1, J1, e1, h⟩ := qp_bd_s h
  refine qp_cV qp_ok22 (rest := []) (oj := 1) qp_f21 rfl rfl (gS_hasPlace_1 l G p1 p2 I J e1 (Nat.le_refl 2)) rfl rfl rfl rfl (Nat.le_trans (by decide) hd) ?_
  refine qp_br_E qp_ok22 (f := v1 = 0) (ct := (25, [some (.ref 1), some (.int p1), some (.int p2)], [], qp_mk I1 J1)) (cf := (9, [some (.ref 1), some (.int p1), some (.int p2)], [], qp_mk I1 J1)) (by with_unfolding_all rfl) (fun h1 => ?_) (fun h1 => ?_)
  · replace h := qp_ift h1 h
    refine qp_run_E qp_ok22 1 (c' := (26, [some (.ref 1), some (.int p1), some (.int p2)], [.int 0], qp_mk I1 J1)) (by with_unfolding_all rfl) hd1 trivial ?_
    obtain ⟨rfl, rfl, rfl⟩ := qp_some3 h
    exact qp_retI_E qp_ok22 rfl qp_r22.1 ⟨rfl, rfl⟩ ⟨rfl, rfl⟩
  · replace h := qp_iff h1 h
    obtain ⟨h2, h⟩ := qp_gd_s h
    refine qp_run_E qp_ok22 10 (f := vp_in ((p1 * (I1 1 0)) + p2) 240 ∧ True) (c' := (26, [some (.ref 1), some (.int p1), some (.int p2)], [.int (I1 3 (Int32.toNatClampNeg ((p1 * (I1 1 0)) + p2)))], qp_mk I1 J1)) (by with_unfolding_all rfl) hd1 ⟨(qp_vin (c := 240) (by decide) h2.1 h2.2), trivial⟩ ?_
    obtain ⟨rfl, rfl, rfl⟩ := qp_some3 h
    exact qp_retI_E qp_ok22 rfl qp_r22.1 ⟨rfl, rfl⟩ ⟨rfl, rfl⟩
def fS_set_1 (p1 : Int32) (p2 : Int32) (p3 : Int32) (I : Nat → Nat → Int32) (J : Nat → Nat → Int64) : Option (Unit × (Nat → Nat → Int32) × (Nat → Nat → Int64)) :=
  qp_bd (fS_hasPlace_1 p1 p2 I J) fun v1 I1 J1 =>
  if v1 = 0 then (
    some ((), I1, J1)
  ) else (
    qp_gd ((0 ≤ ((p1 * (I1 1 0)) + p2) ∧ ((p1 * (I1 1 0)) + p2) < 240)) <|
    some ((), (qp_up I1 3 (Int32.toNatClampNeg ((p1 * (I1 1 0)) + p2)) p3), J1)
  )
set_option maxRecDepth 8000 in
theorem gS_set_1 (l : Launch) (G : qp_G) (p1 : Int32) (p2 : Int32) (p3 : Int32) (I : Nat → Nat → Int32) (J : Nat → Nat → Int64) {v : Unit} {I' : Nat → Nat → Int32} {J' : Nat → Nat → Int64} (h : fS_set_1 p1 p2 p3 I J = some (v, I', J')) {d : Nat} (hd : 3 ≤ d) : qp_Met l G d 23 [.ref 1, .int p1, .int p2, .int p3] (qp_mk I J) 0 0 (qp_R8 none I' J') := by
  have hd1 : Nat.ble 1 d = true := Nat.ble_eq_true_of_le (Nat.le_trans (by decide) hd)
  refine qp_Met_of (by decide) (by rw [qp_r23.2]; rfl) [some (.ref 1), some (.int p1), some (.int p2), some (.int p3)] (by rw [qp_r23.2]; rfl) ?_
  unfold fS_set_1 at h
  refine qp_run_E qp_ok23 3 (c' := (3, [some (.ref 1), some (.int p1), some (.int p2), some (.int p3)], [.int p2, .int p1, .ref 1], qp_mk I J)) (by with_unfolding_all rfl) hd1 trivial ?_
  obtain ⟨v1, I1, J1, e1, h⟩ := qp_bd_s h
  refine qp_cV qp_ok23 (rest := []) (oj := 1) qp_f21 rfl rfl (gS_hasPlace_1 l G p1 p2 I J e1 (Nat.le_refl 2)) rfl rfl rfl rfl (Nat.le_trans (by decide) hd) ?_
  refine qp_br_E qp_ok23 (f := v1 = 0) (ct := (23, [some (.ref 1), some (.int p1), some (.int p2), some (.int p3)], [], qp_mk I1 J1)) (cf := (9, [some (.ref 1), some (.int p1), some (.int p2), some (.int p3)], [], qp_mk I1 J1)) (by with_unfolding_all rfl) (fun h1 => ?_) (fun h1 => ?_)
  · replace h := qp_ift h1 h
    obtain ⟨rfl, rfl, rfl⟩ := qp_some3 h
    exact qp_retV_E qp_ok23 rfl qp_r23.1 ⟨rfl, rfl⟩ ⟨rfl, rfl⟩
  · replace h := qp_iff h1 h
    obtain ⟨h2, h⟩ := qp_gd_s h
    refine qp_run_E qp_ok23 10 (f := vp_in ((p1 * (I1 1 0)) + p2) 240 ∧ True) (c' := (23, [some (.ref 1), some (.int p1), some (.int p2), some (.int p3)], [], qp_mk (qp_up I1 3 (Int32.toNatClampNeg ((p1 * (I1 1 0)) + p2)) p3) J1)) (by with_unfolding_all rfl) hd1 ⟨(qp_vin (c := 240) (by decide) h2.1 h2.2), trivial⟩ ?_
    obtain ⟨rfl, rfl, rfl⟩ := qp_some3 h
    exact qp_retV_E qp_ok23 rfl qp_r23.1 ⟨rfl, rfl⟩ ⟨rfl, rfl⟩
def fX_tell (p1 : Int32) (I : Nat → Nat → Int32) (J : Nat → Nat → Int64) : Option (Int32 × (Nat → Nat → Int32) × (Nat → Nat → Int64)) :=
  some (1, (qp_up I 0 11 p1), J)
set_option maxRecDepth 8000 in
theorem gX_tell (l : Launch) (G : qp_G) (p1 : Int32) (I : Nat → Nat → Int32) (J : Nat → Nat → Int64) {v : Int32} {I' : Nat → Nat → Int32} {J' : Nat → Nat → Int64} (h : fX_tell p1 I J = some (v, I', J')) {d : Nat} (hd : 1 ≤ d) : qp_Met l G d 24 [.ref 0, .int p1] (qp_mk I J) 0 0 (qp_R8 (some (.int v)) I' J') := by
  have hd1 : Nat.ble 1 d = true := Nat.ble_eq_true_of_le (Nat.le_trans (by decide) hd)
  refine qp_Met_of (by decide) (by rw [qp_r24.2]; rfl) [some (.ref 0), some (.int p1)] (by rw [qp_r24.2]; rfl) ?_
  unfold fX_tell at h
  refine qp_run_E qp_ok24 4 (c' := (6, [some (.ref 0), some (.int p1)], [.int 1], qp_mk (qp_up I 0 11 p1) J)) (by with_unfolding_all rfl) hd1 trivial ?_
  obtain ⟨rfl, rfl, rfl⟩ := qp_some3 h
  exact qp_retI_E qp_ok24 rfl qp_r24.1 ⟨rfl, rfl⟩ ⟨rfl, rfl⟩
def fX_lay (p1 : Int32) (p2 : Int32) (p3 : Int32) (I : Nat → Nat → Int32) (J : Nat → Nat → Int64) : Option (Int32 × (Nat → Nat → Int32) × (Nat → Nat → Int64)) :=
  qp_bd (fX_refusalOfPlace_0_1 p1 p2 I J) fun v1 I1 J1 =>
  if v1 = 0 then (
    qp_bd (fS_get_1 p1 p2 I1 J1) fun v2 I2 J2 =>
    qp_bd (fS_set_1 p1 p2 p3 I2 J2) fun _u I3 J3 =>
    qp_bd (fX_tell v2 I3 J3) fun v4 I4 J4 =>
    some (v4, I4, J4)
  ) else (
    some (v1, I1, J1)
  )
set_option maxRecDepth 8000 in
theorem gX_lay (l : Launch) (G : qp_G) (p1 : Int32) (p2 : Int32) (p3 : Int32) (I : Nat → Nat → Int32) (J : Nat → Nat → Int64) {v : Int32} {I' : Nat → Nat → Int32} {J' : Nat → Nat → Int64} (h : fX_lay p1 p2 p3 I J = some (v, I', J')) {d : Nat} (hd : 6 ≤ d) : qp_Met l G d 16 [.ref 0, .int p1, .int p2, .int p3] (qp_mk I J) 0 0 (qp_R8 (some (.int v)) I' J') := by
  have hd1 : Nat.ble 1 d = true := Nat.ble_eq_true_of_le (Nat.le_trans (by decide) hd)
  refine qp_Met_of (by decide) (by rw [qp_r16.2]; rfl) [some (.ref 0), some (.int p1), some (.int p2), some (.int p3), none, none] (by rw [qp_r16.2]; rfl) ?_
  unfold fX_lay at h
  refine qp_run_E qp_ok16 5 (c' := (7, [some (.ref 0), some (.int p1), some (.int p2), some (.int p3), none, none], [.int p2, .int p1, .ref 1, .ref 0], qp_mk I J)) (by with_unfolding_all rfl) hd1 trivial ?_
  obtain ⟨v1, I1, J1, e1, h⟩ := qp_bd_s h
  refine qp_cV qp_ok16 (rest := []) (oj := 0) qp_f17 rfl rfl (gX_refusalOfPlace_0_1 l G p1 p2 I J e1 (Nat.le_refl 5)) rfl rfl rfl rfl (Nat.le_trans (by decide) hd) ?_
  refine qp_run_E qp_ok16 2 (c' := (14, [some (.ref 0), some (.int p1), some (.int p2), some (.int p3), some (.int v1), none], [.int v1], qp_mk I1 J1)) (by with_unfolding_all rfl) hd1 trivial ?_
  refine qp_br_E qp_ok16 (f := v1 = 0) (ct := (20, [some (.ref 0), some (.int p1), some (.int p2), some (.int p3), some (.int v1), none], [], qp_mk I1 J1)) (cf := (17, [some (.ref 0), some (.int p1), some (.int p2), some (.int p3), some (.int v1), none], [], qp_mk I1 J1)) (by with_unfolding_all rfl) (fun h1 => ?_) (fun h1 => ?_)
  · replace h := qp_ift h1 h
    refine qp_run_E qp_ok16 4 (c' := (26, [some (.ref 0), some (.int p1), some (.int p2), some (.int p3), some (.int v1), none], [.int p2, .int p1, .ref 1], qp_mk I1 J1)) (by with_unfolding_all rfl) hd1 trivial ?_
    obtain ⟨v2, I2, J2, e2, h⟩ := qp_bd_s h
    refine qp_cV qp_ok16 (rest := []) (oj := 1) qp_f22 rfl rfl (gS_get_1 l G p1 p2 I1 J1 e2 (Nat.le_refl 3)) rfl rfl rfl rfl (Nat.le_trans (by decide) hd) ?_
    refine qp_run_E qp_ok16 6 (c' := (38, [some (.ref 0), some (.int p1), some (.int p2), some (.int p3), some (.int v1), some (.int v2)], [.int p3, .int p2, .int p1, .ref 1], qp_mk I2 J2)) (by with_unfolding_all rfl) hd1 trivial ?_
    obtain ⟨v3, I3, J3, e3, h⟩ := qp_bd_s h
    refine qp_cV qp_ok16 (rest := []) (oj := 1) qp_f23 rfl rfl (gS_set_1 l G p1 p2 p3 I2 J2 e3 (Nat.le_refl 3)) rfl rfl rfl rfl (Nat.le_trans (by decide) hd) ?_
    refine qp_run_E qp_ok16 2 (c' := (44, [some (.ref 0), some (.int p1), some (.int p2), some (.int p3), some (.int v1), some (.int v2)], [.int v2, .ref 0], qp_mk I3 J3)) (by with_unfolding_all rfl) hd1 trivial ?_
    obtain ⟨v4, I4, J4, e4, h⟩ := qp_bd_s h
    refine qp_cV qp_ok16 (rest := []) (oj := 0) qp_f24 rfl rfl (gX_tell l G v2 I3 J3 e4 (Nat.le_refl 1)) rfl rfl rfl rfl (Nat.le_trans (by decide) hd) ?_
    obtain ⟨rfl, rfl, rfl⟩ := qp_some3 h
    exact qp_retI_E qp_ok16 rfl qp_r16.1 ⟨rfl, rfl⟩ ⟨rfl, rfl⟩
  · replace h := qp_iff h1 h
    refine qp_run_E qp_ok16 1 (c' := (19, [some (.ref 0), some (.int p1), some (.int p2), some (.int p3), some (.int v1), none], [.int v1], qp_mk I1 J1)) (by with_unfolding_all rfl) hd1 trivial ?_
    obtain ⟨rfl, rfl, rfl⟩ := qp_some3 h
    exact qp_retI_E qp_ok16 rfl qp_r16.1 ⟨rfl, rfl⟩ ⟨rfl, rfl⟩
def fX_at (p1 : Int32) (p2 : Int32) (I : Nat → Nat → Int32) (J : Nat → Nat → Int64) : Option (Int32 × (Nat → Nat → Int32) × (Nat → Nat → Int64)) :=
  qp_bd (fX_refusalOfPlace_0_1 p1 p2 I J) fun v1 I1 J1 =>
  if v1 = 0 then (
    qp_bd (fS_get_1 p1 p2 I1 J1) fun v2 I2 J2 =>
    qp_bd (fX_tell v2 I2 J2) fun v3 I3 J3 =>
    some (v3, I3, J3)
  ) else (
    some (v1, I1, J1)
  )
set_option maxRecDepth 8000 in
theorem gX_at (l : Launch) (G : qp_G) (p1 : Int32) (p2 : Int32) (I : Nat → Nat → Int32) (J : Nat → Nat → Int64) {v : Int32} {I' : Nat → Nat → Int32} {J' : Nat → Nat → Int64} (h : fX_at p1 p2 I J = some (v, I', J')) {d : Nat} (hd : 6 ≤ d) : qp_Met l G d 25 [.ref 0, .int p1, .int p2] (qp_mk I J) 0 0 (qp_R8 (some (.int v)) I' J') := by
  have hd1 : Nat.ble 1 d = true := Nat.ble_eq_true_of_le (Nat.le_trans (by decide) hd)
  refine qp_Met_of (by decide) (by rw [qp_r25.2]; rfl) [some (.ref 0), some (.int p1), some (.int p2), none] (by rw [qp_r25.2]; rfl) ?_
  unfold fX_at at h
  refine qp_run_E qp_ok25 5 (c' := (7, [some (.ref 0), some (.int p1), some (.int p2), none], [.int p2, .int p1, .ref 1, .ref 0], qp_mk I J)) (by with_unfolding_all rfl) hd1 trivial ?_
  obtain ⟨v1, I1, J1, e1, h⟩ := qp_bd_s h
  refine qp_cV qp_ok25 (rest := []) (oj := 0) qp_f17 rfl rfl (gX_refusalOfPlace_0_1 l G p1 p2 I J e1 (Nat.le_refl 5)) rfl rfl rfl rfl (Nat.le_trans (by decide) hd) ?_
  refine qp_run_E qp_ok25 2 (c' := (12, [some (.ref 0), some (.int p1), some (.int p2), some (.int v1)], [.int v1], qp_mk I1 J1)) (by with_unfolding_all rfl) hd1 trivial ?_
  refine qp_br_E qp_ok25 (f := v1 = 0) (ct := (17, [some (.ref 0), some (.int p1), some (.int p2), some (.int v1)], [], qp_mk I1 J1)) (cf := (15, [some (.ref 0), some (.int p1), some (.int p2), some (.int v1)], [], qp_mk I1 J1)) (by with_unfolding_all rfl) (fun h1 => ?_) (fun h1 => ?_)
  · replace h := qp_ift h1 h
    refine qp_run_E qp_ok25 5 (c' := (24, [some (.ref 0), some (.int p1), some (.int p2), some (.int v1)], [.int p2, .int p1, .ref 1, .ref 0], qp_mk I1 J1)) (by with_unfolding_all rfl) hd1 trivial ?_
    obtain ⟨v2, I2, J2, e2, h⟩ := qp_bd_s h
    refine qp_cV qp_ok25 (rest := [.ref 0]) (oj := 1) qp_f22 rfl rfl (gS_get_1 l G p1 p2 I1 J1 e2 (Nat.le_refl 3)) rfl rfl rfl rfl (Nat.le_trans (by decide) hd) ?_
    obtain ⟨v3, I3, J3, e3, h⟩ := qp_bd_s h
    refine qp_cV qp_ok25 (rest := []) (oj := 0) qp_f24 rfl rfl (gX_tell l G v2 I2 J2 e3 (Nat.le_refl 1)) rfl rfl rfl rfl (Nat.le_trans (by decide) hd) ?_
    obtain ⟨rfl, rfl, rfl⟩ := qp_some3 h
    exact qp_retI_E qp_ok25 rfl qp_r25.1 ⟨rfl, rfl⟩ ⟨rfl, rfl⟩
  · replace h := qp_iff h1 h
    refine qp_run_E qp_ok25 1 (c' := (16, [some (.ref 0), some (.int p1), some (.int p2), some (.int v1)], [.int v1], qp_mk I1 J1)) (by with_unfolding_all rfl) hd1 trivial ?_
    obtain ⟨rfl, rfl, rfl⟩ := qp_some3 h
    exact qp_retI_E qp_ok25 rfl qp_r25.1 ⟨rfl, rfl⟩ ⟨rfl, rfl⟩
def fS_drop_1 (p1 : Int32) (I : Nat → Nat → Int32) (J : Nat → Nat → Int64) : Option (Unit × (Nat → Nat → Int32) × (Nat → Nat → Int64)) :=
  qp_bd (fS_isNumber_1 p1 I J) fun v1 I1 J1 =>
  if v1 = 0 then (
    some ((), I1, J1)
  ) else (
    qp_gd ((0 ≤ p1 ∧ p1 < 6)) <|
    some ((), (qp_up I1 2 (Int32.toNatClampNeg p1) (-1)), J1)
  )
set_option maxRecDepth 8000 in
theorem gS_drop_1 (l : Launch) (G : qp_G) (p1 : Int32) (I : Nat → Nat → Int32) (J : Nat → Nat → Int64) {v : Unit} {I' : Nat → Nat → Int32} {J' : Nat → Nat → Int64} (h : fS_drop_1 p1 I J = some (v, I', J')) {d : Nat} (hd : 2 ≤ d) : qp_Met l G d 27 [.ref 1, .int p1] (qp_mk I J) 0 0 (qp_R8 none I' J') := by
  have hd1 : Nat.ble 1 d = true := Nat.ble_eq_true_of_le (Nat.le_trans (by decide) hd)
  refine qp_Met_of (by decide) (by rw [qp_r27.2]; rfl) [some (.ref 1), some (.int p1)] (by rw [qp_r27.2]; rfl) ?_
  unfold fS_drop_1 at h
  refine qp_run_E qp_ok27 2 (c' := (2, [some (.ref 1), some (.int p1)], [.int p1, .ref 1], qp_mk I J)) (by with_unfolding_all rfl) hd1 trivial ?_
  obtain ⟨v1, I1, J1, e1, h⟩ := qp_bd_s h
  refine qp_cV qp_ok27 (rest := []) (oj := 1) qp_f13 rfl rfl (gS_isNumber_1 l G p1 I J e1 (Nat.le_refl 1)) rfl rfl rfl rfl (Nat.le_trans (by decide) hd) ?_
  refine qp_br_E qp_ok27 (f := v1 = 0) (ct := (15, [some (.ref 1), some (.int p1)], [], qp_mk I1 J1)) (cf := (8, [some (.ref 1), some (.int p1)], [], qp_mk I1 J1)) (by with_unfolding_all rfl) (fun h1 => ?_) (fun h1 => ?_)
  · replace h := qp_ift h1 h
    obtain ⟨rfl, rfl, rfl⟩ := qp_some3 h
    exact qp_retV_E qp_ok27 rfl qp_r27.1 ⟨rfl, rfl⟩ ⟨rfl, rfl⟩
  · replace h := qp_iff h1 h
    obtain ⟨h2, h⟩ := qp_gd_s h
    refine qp_run_E qp_ok27 5 (f := vp_in p1 6 ∧ True) (c' := (15, [some (.ref 1), some (.int p1)], [], qp_mk (qp_up I1 2 (Int32.toNatClampNeg p1) (-1)) J1)) (by with_unfolding_all rfl) hd1 ⟨(qp_vin (c := 6) (by decide) h2.1 h2.2), trivial⟩ ?_
    obtain ⟨rfl, rfl, rfl⟩ := qp_some3 h
    exact qp_retV_E qp_ok27 rfl qp_r27.1 ⟨rfl, rfl⟩ ⟨rfl, rfl⟩
def fX_tear (p1 : Int32) (I : Nat → Nat → Int32) (J : Nat → Nat → Int64) : Option (Int32 × (Nat → Nat → Int32) × (Nat → Nat → Int64)) :=
  qp_bd (fX_refusalOf_0_1 p1 I J) fun v1 I1 J1 =>
  if v1 = 0 then (
    qp_bd (fS_drop_1 p1 I1 J1) fun _u I2 J2 =>
    some (1, I2, J2)
  ) else (
    some (v1, I1, J1)
  )
set_option maxRecDepth 8000 in
theorem gX_tear (l : Launch) (G : qp_G) (p1 : Int32) (I : Nat → Nat → Int32) (J : Nat → Nat → Int64) {v : Int32} {I' : Nat → Nat → Int32} {J' : Nat → Nat → Int64} (h : fX_tear p1 I J = some (v, I', J')) {d : Nat} (hd : 5 ≤ d) : qp_Met l G d 26 [.ref 0, .int p1] (qp_mk I J) 0 0 (qp_R8 (some (.int v)) I' J') := by
  have hd1 : Nat.ble 1 d = true := Nat.ble_eq_true_of_le (Nat.le_trans (by decide) hd)
  refine qp_Met_of (by decide) (by rw [qp_r26.2]; rfl) [some (.ref 0), some (.int p1), none] (by rw [qp_r26.2]; rfl) ?_
  unfold fX_tear at h
  refine qp_run_E qp_ok26 4 (c' := (6, [some (.ref 0), some (.int p1), none], [.int p1, .ref 1, .ref 0], qp_mk I J)) (by with_unfolding_all rfl) hd1 trivial ?_
  obtain ⟨v1, I1, J1, e1, h⟩ := qp_bd_s h
  refine qp_cV qp_ok26 (rest := []) (oj := 0) qp_f18 rfl rfl (gX_refusalOf_0_1 l G p1 I J e1 (Nat.le_refl 4)) rfl rfl rfl rfl (Nat.le_trans (by decide) hd) ?_
  refine qp_run_E qp_ok26 2 (c' := (11, [some (.ref 0), some (.int p1), some (.int v1)], [.int v1], qp_mk I1 J1)) (by with_unfolding_all rfl) hd1 trivial ?_
  refine qp_br_E qp_ok26 (f := v1 = 0) (ct := (16, [some (.ref 0), some (.int p1), some (.int v1)], [], qp_mk I1 J1)) (cf := (14, [some (.ref 0), some (.int p1), some (.int v1)], [], qp_mk I1 J1)) (by with_unfolding_all rfl) (fun h1 => ?_) (fun h1 => ?_)
  · replace h := qp_ift h1 h
    refine qp_run_E qp_ok26 3 (c' := (21, [some (.ref 0), some (.int p1), some (.int v1)], [.int p1, .ref 1], qp_mk I1 J1)) (by with_unfolding_all rfl) hd1 trivial ?_
    obtain ⟨v2, I2, J2, e2, h⟩ := qp_bd_s h
    refine qp_cV qp_ok26 (rest := []) (oj := 1) qp_f27 rfl rfl (gS_drop_1 l G p1 I1 J1 e2 (Nat.le_refl 2)) rfl rfl rfl rfl (Nat.le_trans (by decide) hd) ?_
    refine qp_run_E qp_ok26 1 (c' := (25, [some (.ref 0), some (.int p1), some (.int v1)], [.int 1], qp_mk I2 J2)) (by with_unfolding_all rfl) hd1 trivial ?_
    obtain ⟨rfl, rfl, rfl⟩ := qp_some3 h
    exact qp_retI_E qp_ok26 rfl qp_r26.1 ⟨rfl, rfl⟩ ⟨rfl, rfl⟩
  · replace h := qp_iff h1 h
    refine qp_run_E qp_ok26 1 (c' := (15, [some (.ref 0), some (.int p1), some (.int v1)], [.int v1], qp_mk I1 J1)) (by with_unfolding_all rfl) hd1 trivial ?_
    obtain ⟨rfl, rfl, rfl⟩ := qp_some3 h
    exact qp_retI_E qp_ok26 rfl qp_r26.1 ⟨rfl, rfl⟩ ⟨rfl, rfl⟩
def fS_hasSpan_1 (p1 : Int32) (p2 : Int32) (p3 : Int32) (I : Nat → Nat → Int32) (J : Nat → Nat → Int64) : Option (Int32 × (Nat → Nat → Int32) × (Nat → Nat → Int64)) :=
  qp_bd (fS_has_1 p1 I J) fun v1 I1 J1 =>
  if v1 = 0 then (
    some (0, I1, J1)
  ) else (
    if p3 < 0 then (
      some (0, I1, J1)
    ) else (
      if p2 < 0 then (
        some (0, I1, J1)
      ) else (
        qp_bd (fS_sizeOf_1 p1 I1 J1) fun v2 I2 J2 =>
        if (v2 - p3) < p2 then (
          some (0, I2, J2)
        ) else (
          some (1, I2, J2)
        )
      )
    )
  )
set_option maxRecDepth 8000 in
theorem gS_hasSpan_1 (l : Launch) (G : qp_G) (p1 : Int32) (p2 : Int32) (p3 : Int32) (I : Nat → Nat → Int32) (J : Nat → Nat → Int64) {v : Int32} {I' : Nat → Nat → Int32} {J' : Nat → Nat → Int64} (h : fS_hasSpan_1 p1 p2 p3 I J = some (v, I', J')) {d : Nat} (hd : 4 ≤ d) : qp_Met l G d 29 [.ref 1, .int p1, .int p2, .int p3] (qp_mk I J) 0 0 (qp_R8 (some (.int v)) I' J') := by
  have hd1 : Nat.ble 1 d = true := Nat.ble_eq_true_of_le (Nat.le_trans (by decide) hd)
  refine qp_Met_of (by decide) (by rw [qp_r29.2]; rfl) [some (.ref 1), some (.int p1), some (.int p2), some (.int p3)] (by rw [qp_r29.2]; rfl) ?_
  unfold fS_hasSpan_1 at h
  refine qp_run_E qp_ok29 2 (c' := (2, [some (.ref 1), some (.int p1), some (.int p2), some (.int p3)], [.int p1, .ref 1], qp_mk I J)) (by with_unfolding_all rfl) hd1 trivial ?_
  obtain ⟨v1, I1, J1, e1, h⟩ := qp_bd_s h
  refine qp_cV qp_ok29 (rest := []) (oj := 1) qp_f19 rfl rfl (gS_has_1 l G p1 I J e1 (Nat.le_refl 3)) rfl rfl rfl rfl (Nat.le_trans (by decide) hd) ?_
  refine qp_br_E qp_ok29 (f := v1 = 0) (ct := (31, [some (.ref 1), some (.int p1), some (.int p2), some (.int p3)], [], qp_mk I1 J1)) (cf := (8, [some (.ref 1), some (.int p1), some (.int p2), some (.int p3)], [], qp_mk I1 J1)) (by with_unfolding_all rfl) (fun h1 => ?_) (fun h1 => ?_)
  · replace h := qp_ift h1 h
    refine qp_run_E qp_ok29 1 (c' := (32, [some (.ref 1), some (.int p1), some (.int p2), some (.int p3)], [.int 0], qp_mk I1 J1)) (by with_unfolding_all rfl) hd1 trivial ?_
    obtain ⟨rfl, rfl, rfl⟩ := qp_some3 h
    exact qp_retZ_E qp_ok29 rfl qp_r29.1 rfl ⟨rfl, rfl⟩ ⟨rfl, rfl⟩
  · replace h := qp_iff h1 h
    refine qp_run_E qp_ok29 1 (c' := (9, [some (.ref 1), some (.int p1), some (.int p2), some (.int p3)], [.int p3], qp_mk I1 J1)) (by with_unfolding_all rfl) hd1 trivial ?_
    refine qp_br_E qp_ok29 (f := p3 < 0) (ct := (31, [some (.ref 1), some (.int p1), some (.int p2), some (.int p3)], [], qp_mk I1 J1)) (cf := (12, [some (.ref 1), some (.int p1), some (.int p2), some (.int p3)], [], qp_mk I1 J1)) (by with_unfolding_all rfl) (fun h2 => ?_) (fun h2 => ?_)
    · replace h := qp_ift h2 h
      refine qp_run_E qp_ok29 1 (c' := (32, [some (.ref 1), some (.int p1), some (.int p2), some (.int p3)], [.int 0], qp_mk I1 J1)) (by with_unfolding_all rfl) hd1 trivial ?_
      obtain ⟨rfl, rfl, rfl⟩ := qp_some3 h
      exact qp_retZ_E qp_ok29 rfl qp_r29.1 rfl ⟨rfl, rfl⟩ ⟨rfl, rfl⟩
    · replace h := qp_iff h2 h
      refine qp_run_E qp_ok29 1 (c' := (13, [some (.ref 1), some (.int p1), some (.int p2), some (.int p3)], [.int p2], qp_mk I1 J1)) (by with_unfolding_all rfl) hd1 trivial ?_
      refine qp_br_E qp_ok29 (f := p2 < 0) (ct := (31, [some (.ref 1), some (.int p1), some (.int p2), some (.int p3)], [], qp_mk I1 J1)) (cf := (16, [some (.ref 1), some (.int p1), some (.int p2), some (.int p3)], [], qp_mk I1 J1)) (by with_unfolding_all rfl) (fun h3 => ?_) (fun h3 => ?_)
      · replace h := qp_ift h3 h
        refine qp_run_E qp_ok29 1 (c' := (32, [some (.ref 1), some (.int p1), some (.int p2), some (.int p3)], [.int 0], qp_mk I1 J1)) (by with_unfolding_all rfl) hd1 trivial ?_
        obtain ⟨rfl, rfl, rfl⟩ := qp_some3 h
        exact qp_retZ_E qp_ok29 rfl qp_r29.1 rfl ⟨rfl, rfl⟩ ⟨rfl, rfl⟩
      · replace h := qp_iff h3 h
        refine qp_run_E qp_ok29 3 (c' := (19, [some (.ref 1), some (.int p1), some (.int p2), some (.int p3)], [.int p1, .ref 1, .int p2], qp_mk I1 J1)) (by with_unfolding_all rfl) hd1 trivial ?_
        obtain ⟨v2, I2, J2, e2, h⟩ := qp_bd_s h
        refine qp_cV qp_ok29 (rest := [.int p2]) (oj := 1) qp_f20 rfl rfl (gS_sizeOf_1 l G p1 I1 J1 e2 (Nat.le_refl 2)) rfl rfl rfl rfl (Nat.le_trans (by decide) hd) ?_
        refine qp_run_E qp_ok29 2 (c' := (24, [some (.ref 1), some (.int p1), some (.int p2), some (.int p3)], [.int (v2 - p3), .int p2], qp_mk I2 J2)) (by with_unfolding_all rfl) hd1 trivial ?_
        refine qp_br_E qp_ok29 (f := (v2 - p3) < p2) (ct := (31, [some (.ref 1), some (.int p1), some (.int p2), some (.int p3)], [], qp_mk I2 J2)) (cf := (27, [some (.ref 1), some (.int p1), some (.int p2), some (.int p3)], [], qp_mk I2 J2)) (by with_unfolding_all rfl) (fun h4 => ?_) (fun h4 => ?_)
        · replace h := qp_ift h4 h
          refine qp_run_E qp_ok29 1 (c' := (32, [some (.ref 1), some (.int p1), some (.int p2), some (.int p3)], [.int 0], qp_mk I2 J2)) (by with_unfolding_all rfl) hd1 trivial ?_
          obtain ⟨rfl, rfl, rfl⟩ := qp_some3 h
          exact qp_retZ_E qp_ok29 rfl qp_r29.1 rfl ⟨rfl, rfl⟩ ⟨rfl, rfl⟩
        · replace h := qp_iff h4 h
          refine qp_run_E qp_ok29 2 (c' := (32, [some (.ref 1), some (.int p1), some (.int p2), some (.int p3)], [.int 1], qp_mk I2 J2)) (by with_unfolding_all rfl) hd1 trivial ?_
          obtain ⟨rfl, rfl, rfl⟩ := qp_some3 h
          exact qp_retZ_E qp_ok29 rfl qp_r29.1 rfl ⟨rfl, rfl⟩ ⟨rfl, rfl⟩
def fS_bring_1 (p1 : Int32) (p2 : Int32) (p3 : Int32) (p4 : Int32) (p5 : Int32) (I : Nat → Nat → Int32) (J : Nat → Nat → Int64) : Option (Unit × (Nat → Nat → Int32) × (Nat → Nat → Int64)) :=
  qp_bd (fS_hasSpan_1 p1 p2 p5 I J) fun v1 I1 J1 =>
  if v1 = 0 then (
    some ((), I1, J1)
  ) else (
    qp_bd (fS_hasSpan_1 p3 p4 p5 I1 J1) fun v2 I2 J2 =>
    if v2 = 0 then (
      some ((), I2, J2)
    ) else (
      qp_gd (qp_cpok ((p1 * (I2 1 0)) + p2) ((p3 * (I2 1 0)) + p4) p5 240 240) <|
      some ((), (qp_cpy I2 3 3 ((p1 * (I2 1 0)) + p2) ((p3 * (I2 1 0)) + p4) p5), J2)
    )
  )
set_option maxRecDepth 8000 in
theorem gS_bring_1 (l : Launch) (G : qp_G) (p1 : Int32) (p2 : Int32) (p3 : Int32) (p4 : Int32) (p5 : Int32) (I : Nat → Nat → Int32) (J : Nat → Nat → Int64) {v : Unit} {I' : Nat → Nat → Int32} {J' : Nat → Nat → Int64} (h : fS_bring_1 p1 p2 p3 p4 p5 I J = some (v, I', J')) {d : Nat} (hd : 5 ≤ d) : qp_Met l G d 30 [.ref 1, .int p1, .int p2, .int p3, .int p4, .int p5] (qp_mk I J) 0 0 (qp_R8 none I' J') := by
  have hd1 : Nat.ble 1 d = true := Nat.ble_eq_true_of_le (Nat.le_trans (by decide) hd)
  refine qp_Met_of (by decide) (by rw [qp_r30.2]; rfl) [some (.ref 1), some (.int p1), some (.int p2), some (.int p3), some (.int p4), some (.int p5)] (by rw [qp_r30.2]; rfl) ?_
  unfold fS_bring_1 at h
  refine qp_run_E qp_ok30 4 (c' := (5, [some (.ref 1), some (.int p1), some (.int p2), some (.int p3), some (.int p4), some (.int p5)], [.int p5, .int p2, .int p1, .ref 1], qp_mk I J)) (by with_unfolding_all rfl) hd1 trivial ?_
  obtain ⟨v1, I1, J1, e1, h⟩ := qp_bd_s h
  refine qp_cV qp_ok30 (rest := []) (oj := 1) qp_f29 rfl rfl (gS_hasSpan_1 l G p1 p2 p5 I J e1 (Nat.le_refl 4)) rfl rfl rfl rfl (Nat.le_trans (by decide) hd) ?_
  refine qp_br_E qp_ok30 (f := v1 = 0) (ct := (53, [some (.ref 1), some (.int p1), some (.int p2), some (.int p3), some (.int p4), some (.int p5)], [], qp_mk I1 J1)) (cf := (11, [some (.ref 1), some (.int p1), some (.int p2), some (.int p3), some (.int p4), some (.int p5)], [], qp_mk I1 J1)) (by with_unfolding_all rfl) (fun h1 => ?_) (fun h1 => ?_)
  · replace h := qp_ift h1 h
    obtain ⟨rfl, rfl, rfl⟩ := qp_some3 h
    exact qp_retV_E qp_ok30 rfl qp_r30.1 ⟨rfl, rfl⟩ ⟨rfl, rfl⟩
  · replace h := qp_iff h1 h
    refine qp_run_E qp_ok30 4 (c' := (17, [some (.ref 1), some (.int p1), some (.int p2), some (.int p3), some (.int p4), some (.int p5)], [.int p5, .int p4, .int p3, .ref 1], qp_mk I1 J1)) (by with_unfolding_all rfl) hd1 trivial ?_
    obtain ⟨v2, I2, J2, e2, h⟩ := qp_bd_s h
    refine qp_cV qp_ok30 (rest := []) (oj := 1) qp_f29 rfl rfl (gS_hasSpan_1 l G p3 p4 p5 I1 J1 e2 (Nat.le_refl 4)) rfl rfl rfl rfl (Nat.le_trans (by decide) hd) ?_
    refine qp_br_E qp_ok30 (f := v2 = 0) (ct := (53, [some (.ref 1), some (.int p1), some (.int p2), some (.int p3), some (.int p4), some (.int p5)], [], qp_mk I2 J2)) (cf := (23, [some (.ref 1), some (.int p1), some (.int p2), some (.int p3), some (.int p4), some (.int p5)], [], qp_mk I2 J2)) (by with_unfolding_all rfl) (fun h2 => ?_) (fun h2 => ?_)
    · replace h := qp_ift h2 h
      obtain ⟨rfl, rfl, rfl⟩ := qp_some3 h
      exact qp_retV_E qp_ok30 rfl qp_r30.1 ⟨rfl, rfl⟩ ⟨rfl, rfl⟩
    · replace h := qp_iff h2 h
      refine qp_run_E qp_ok30 17 (c' := (50, [some (.ref 1), some (.int p1), some (.int p2), some (.int p3), some (.int p4), some (.int p5)], [.int p5, .int ((p3 * (I2 1 0)) + p4), .ref 3, .int ((p1 * (I2 1 0)) + p2), .ref 3], qp_mk I2 J2)) (by with_unfolding_all rfl) hd1 trivial ?_
      obtain ⟨h3, h⟩ := qp_gd_s h
      refine qp_cpy_E qp_ok30 (rest := []) rfl rfl rfl rfl h3 hd1 ?_
      obtain ⟨rfl, rfl, rfl⟩ := qp_some3 h
      exact qp_retV_E qp_ok30 rfl qp_r30.1 ⟨rfl, rfl⟩ ⟨rfl, rfl⟩
def fX_copy (p1 : Int32) (p2 : Int32) (p3 : Int32) (p4 : Int32) (p5 : Int32) (I : Nat → Nat → Int32) (J : Nat → Nat → Int64) : Option (Int32 × (Nat → Nat → Int32) × (Nat → Nat → Int64)) :=
  qp_bd (fS_isNumber_1 p1 I J) fun v1 I1 J1 =>
  if v1 = 0 then (
    some ((-1), I1, J1)
  ) else (
    qp_bd (fS_isNumber_1 p3 I1 J1) fun v2 I2 J2 =>
    if ¬ v2 = 0 then (
      if 0 ≤ p5 then (
        qp_bd (fS_has_1 p1 I2 J2) fun v3 I3 J3 =>
        if v3 = 0 then (
          qp_bd (fX_found 1 I3 J3) fun v4 I4 J4 =>
          some (v4, I4, J4)
        ) else (
          qp_bd (fS_has_1 p3 I3 J3) fun v5 I5 J5 =>
          if ¬ v5 = 0 then (
            qp_bd (fS_hasSpan_1 p1 p2 p5 I5 J5) fun v6 I6 J6 =>
            if v6 = 0 then (
              qp_bd (fX_found 2 I6 J6) fun v7 I7 J7 =>
              some (v7, I7, J7)
            ) else (
              qp_bd (fS_hasSpan_1 p3 p4 p5 I6 J6) fun v8 I8 J8 =>
              if ¬ v8 = 0 then (
                qp_bd (fS_bring_1 p1 p2 p3 p4 p5 I8 J8) fun _u I9 J9 =>
                some (1, I9, J9)
              ) else (
                qp_bd (fX_found 2 I8 J8) fun v10 I10 J10 =>
                some (v10, I10, J10)
              )
            )
          ) else (
            qp_bd (fX_found 1 I5 J5) fun v11 I11 J11 =>
            some (v11, I11, J11)
          )
        )
      ) else (
        qp_bd (fX_found 5 I2 J2) fun v12 I12 J12 =>
        some (v12, I12, J12)
      )
    ) else (
      some ((-1), I2, J2)
    )
  )
set_option maxRecDepth 8000 in
theorem gX_copy (l : Launch) (G : qp_G) (p1 : Int32) (p2 : Int32) (p3 : Int32) (p4 : Int32) (p5 : Int32) (I : Nat → Nat → Int32) (J : Nat → Nat → Int64) {v : Int32} {I' : Nat → Nat → Int32} {J' : Nat → Nat → Int64} (h : fX_copy p1 p2 p3 p4 p5 I J = some (v, I', J')) {d : Nat} (hd : 6 ≤ d) : qp_Met l G d 28 [.ref 0, .int p1, .int p2, .int p3, .int p4, .int p5] (qp_mk I J) 0 0 (qp_R8 (some (.int v)) I' J') := by
  have hd1 : Nat.ble 1 d = true := Nat.ble_eq_true_of_le (Nat.le_trans (by decide) hd)
  refine qp_Met_of (by decide) (by rw [qp_r28.2]; rfl) [some (.ref 0), some (.int p1), some (.int p2), some (.int p3), some (.int p4), some (.int p5)] (by rw [qp_r28.2]; rfl) ?_
  unfold fX_copy at h
  refine qp_run_E qp_ok28 3 (c' := (5, [some (.ref 0), some (.int p1), some (.int p2), some (.int p3), some (.int p4), some (.int p5)], [.int p1, .ref 1], qp_mk I J)) (by with_unfolding_all rfl) hd1 trivial ?_
  obtain ⟨v1, I1, J1, e1, h⟩ := qp_bd_s h
  refine qp_cV qp_ok28 (rest := []) (oj := 1) qp_f13 rfl rfl (gS_isNumber_1 l G p1 I J e1 (Nat.le_refl 1)) rfl rfl rfl rfl (Nat.le_trans (by decide) hd) ?_
  refine qp_br_E qp_ok28 (f := v1 = 0) (ct := (22, [some (.ref 0), some (.int p1), some (.int p2), some (.int p3), some (.int p4), some (.int p5)], [], qp_mk I1 J1)) (cf := (11, [some (.ref 0), some (.int p1), some (.int p2), some (.int p3), some (.int p4), some (.int p5)], [], qp_mk I1 J1)) (by with_unfolding_all rfl) (fun h1 => ?_) (fun h1 => ?_)
  · replace h := qp_ift h1 h
    refine qp_run_E qp_ok28 1 (c' := (23, [some (.ref 0), some (.int p1), some (.int p2), some (.int p3), some (.int p4), some (.int p5)], [.int (-1)], qp_mk I1 J1)) (by with_unfolding_all rfl) hd1 trivial ?_
    obtain ⟨rfl, rfl, rfl⟩ := qp_some3 h
    exact qp_retI_E qp_ok28 rfl qp_r28.1 ⟨rfl, rfl⟩ ⟨rfl, rfl⟩
  · replace h := qp_iff h1 h
    refine qp_run_E qp_ok28 3 (c' := (16, [some (.ref 0), some (.int p1), some (.int p2), some (.int p3), some (.int p4), some (.int p5)], [.int p3, .ref 1], qp_mk I1 J1)) (by with_unfolding_all rfl) hd1 trivial ?_
    obtain ⟨v2, I2, J2, e2, h⟩ := qp_bd_s h
    refine qp_cV qp_ok28 (rest := []) (oj := 1) qp_f13 rfl rfl (gS_isNumber_1 l G p3 I1 J1 e2 (Nat.le_refl 1)) rfl rfl rfl rfl (Nat.le_trans (by decide) hd) ?_
    refine qp_br_E qp_ok28 (f := ¬ v2 = 0) (ct := (24, [some (.ref 0), some (.int p1), some (.int p2), some (.int p3), some (.int p4), some (.int p5)], [], qp_mk I2 J2)) (cf := (22, [some (.ref 0), some (.int p1), some (.int p2), some (.int p3), some (.int p4), some (.int p5)], [], qp_mk I2 J2)) (by with_unfolding_all rfl) (fun h2 => ?_) (fun h2 => ?_)
    · replace h := qp_ift h2 h
      refine qp_run_E qp_ok28 1 (c' := (26, [some (.ref 0), some (.int p1), some (.int p2), some (.int p3), some (.int p4), some (.int p5)], [.int p5], qp_mk I2 J2)) (by with_unfolding_all rfl) hd1 trivial ?_
      refine qp_br_E qp_ok28 (f := 0 ≤ p5) (ct := (35, [some (.ref 0), some (.int p1), some (.int p2), some (.int p3), some (.int p4), some (.int p5)], [], qp_mk I2 J2)) (cf := (29, [some (.ref 0), some (.int p1), some (.int p2), some (.int p3), some (.int p4), some (.int p5)], [], qp_mk I2 J2)) (by with_unfolding_all rfl) (fun h3 => ?_) (fun h3 => ?_)
      · replace h := qp_ift h3 h
        refine qp_run_E qp_ok28 3 (c' := (40, [some (.ref 0), some (.int p1), some (.int p2), some (.int p3), some (.int p4), some (.int p5)], [.int p1, .ref 1], qp_mk I2 J2)) (by with_unfolding_all rfl) hd1 trivial ?_
        obtain ⟨v3, I3, J3, e3, h⟩ := qp_bd_s h
        refine qp_cV qp_ok28 (rest := []) (oj := 1) qp_f19 rfl rfl (gS_has_1 l G p1 I2 J2 e3 (Nat.le_refl 3)) rfl rfl rfl rfl (Nat.le_trans (by decide) hd) ?_
        refine qp_br_E qp_ok28 (f := v3 = 0) (ct := (57, [some (.ref 0), some (.int p1), some (.int p2), some (.int p3), some (.int p4), some (.int p5)], [], qp_mk I3 J3)) (cf := (46, [some (.ref 0), some (.int p1), some (.int p2), some (.int p3), some (.int p4), some (.int p5)], [], qp_mk I3 J3)) (by with_unfolding_all rfl) (fun h4 => ?_) (fun h4 => ?_)
        · replace h := qp_ift h4 h
          refine qp_run_E qp_ok28 2 (c' := (59, [some (.ref 0), some (.int p1), some (.int p2), some (.int p3), some (.int p4), some (.int p5)], [.int 1, .ref 0], qp_mk I3 J3)) (by with_unfolding_all rfl) hd1 trivial ?_
          obtain ⟨v4, I4, J4, e4, h⟩ := qp_bd_s h
          refine qp_cV qp_ok28 (rest := []) (oj := 0) qp_f14 rfl rfl (gX_found l G 1 I3 J3 e4 (Nat.le_refl 1)) rfl rfl rfl rfl (Nat.le_trans (by decide) hd) ?_
          obtain ⟨rfl, rfl, rfl⟩ := qp_some3 h
          exact qp_retI_E qp_ok28 rfl qp_r28.1 ⟨rfl, rfl⟩ ⟨rfl, rfl⟩
        · replace h := qp_iff h4 h
          refine qp_run_E qp_ok28 3 (c' := (51, [some (.ref 0), some (.int p1), some (.int p2), some (.int p3), some (.int p4), some (.int p5)], [.int p3, .ref 1], qp_mk I3 J3)) (by with_unfolding_all rfl) hd1 trivial ?_
          obtain ⟨v5, I5, J5, e5, h⟩ := qp_bd_s h
          refine qp_cV qp_ok28 (rest := []) (oj := 1) qp_f19 rfl rfl (gS_has_1 l G p3 I3 J3 e5 (Nat.le_refl 3)) rfl rfl rfl rfl (Nat.le_trans (by decide) hd) ?_
          refine qp_br_E qp_ok28 (f := ¬ v5 = 0) (ct := (63, [some (.ref 0), some (.int p1), some (.int p2), some (.int p3), some (.int p4), some (.int p5)], [], qp_mk I5 J5)) (cf := (57, [some (.ref 0), some (.int p1), some (.int p2), some (.int p3), some (.int p4), some (.int p5)], [], qp_mk I5 J5)) (by with_unfolding_all rfl) (fun h5 => ?_) (fun h5 => ?_)
          · replace h := qp_ift h5 h
            refine qp_run_E qp_ok28 5 (c' := (71, [some (.ref 0), some (.int p1), some (.int p2), some (.int p3), some (.int p4), some (.int p5)], [.int p5, .int p2, .int p1, .ref 1], qp_mk I5 J5)) (by with_unfolding_all rfl) hd1 trivial ?_
            obtain ⟨v6, I6, J6, e6, h⟩ := qp_bd_s h
            refine qp_cV qp_ok28 (rest := []) (oj := 1) qp_f29 rfl rfl (gS_hasSpan_1 l G p1 p2 p5 I5 J5 e6 (Nat.le_refl 4)) rfl rfl rfl rfl (Nat.le_trans (by decide) hd) ?_
            refine qp_br_E qp_ok28 (f := v6 = 0) (ct := (92, [some (.ref 0), some (.int p1), some (.int p2), some (.int p3), some (.int p4), some (.int p5)], [], qp_mk I6 J6)) (cf := (77, [some (.ref 0), some (.int p1), some (.int p2), some (.int p3), some (.int p4), some (.int p5)], [], qp_mk I6 J6)) (by with_unfolding_all rfl) (fun h6 => ?_) (fun h6 => ?_)
            · replace h := qp_ift h6 h
              refine qp_run_E qp_ok28 2 (c' := (94, [some (.ref 0), some (.int p1), some (.int p2), some (.int p3), some (.int p4), some (.int p5)], [.int 2, .ref 0], qp_mk I6 J6)) (by with_unfolding_all rfl) hd1 trivial ?_
              obtain ⟨v7, I7, J7, e7, h⟩ := qp_bd_s h
              refine qp_cV qp_ok28 (rest := []) (oj := 0) qp_f14 rfl rfl (gX_found l G 2 I6 J6 e7 (Nat.le_refl 1)) rfl rfl rfl rfl (Nat.le_trans (by decide) hd) ?_
              obtain ⟨rfl, rfl, rfl⟩ := qp_some3 h
              exact qp_retI_E qp_ok28 rfl qp_r28.1 ⟨rfl, rfl⟩ ⟨rfl, rfl⟩
            · replace h := qp_iff h6 h
              refine qp_run_E qp_ok28 5 (c' := (86, [some (.ref 0), some (.int p1), some (.int p2), some (.int p3), some (.int p4), some (.int p5)], [.int p5, .int p4, .int p3, .ref 1], qp_mk I6 J6)) (by with_unfolding_all rfl) hd1 trivial ?_
              obtain ⟨v8, I8, J8, e8, h⟩ := qp_bd_s h
              refine qp_cV qp_ok28 (rest := []) (oj := 1) qp_f29 rfl rfl (gS_hasSpan_1 l G p3 p4 p5 I6 J6 e8 (Nat.le_refl 4)) rfl rfl rfl rfl (Nat.le_trans (by decide) hd) ?_
              refine qp_br_E qp_ok28 (f := ¬ v8 = 0) (ct := (98, [some (.ref 0), some (.int p1), some (.int p2), some (.int p3), some (.int p4), some (.int p5)], [], qp_mk I8 J8)) (cf := (92, [some (.ref 0), some (.int p1), some (.int p2), some (.int p3), some (.int p4), some (.int p5)], [], qp_mk I8 J8)) (by with_unfolding_all rfl) (fun h7 => ?_) (fun h7 => ?_)
              · replace h := qp_ift h7 h
                refine qp_run_E qp_ok28 7 (c' := (109, [some (.ref 0), some (.int p1), some (.int p2), some (.int p3), some (.int p4), some (.int p5)], [.int p5, .int p4, .int p3, .int p2, .int p1, .ref 1], qp_mk I8 J8)) (by with_unfolding_all rfl) hd1 trivial ?_
                obtain ⟨v9, I9, J9, e9, h⟩ := qp_bd_s h
                refine qp_cV qp_ok28 (rest := []) (oj := 1) qp_f30 rfl rfl (gS_bring_1 l G p1 p2 p3 p4 p5 I8 J8 e9 (Nat.le_refl 5)) rfl rfl rfl rfl (Nat.le_trans (by decide) hd) ?_
                refine qp_run_E qp_ok28 1 (c' := (113, [some (.ref 0), some (.int p1), some (.int p2), some (.int p3), some (.int p4), some (.int p5)], [.int 1], qp_mk I9 J9)) (by with_unfolding_all rfl) hd1 trivial ?_
                obtain ⟨rfl, rfl, rfl⟩ := qp_some3 h
                exact qp_retI_E qp_ok28 rfl qp_r28.1 ⟨rfl, rfl⟩ ⟨rfl, rfl⟩
              · replace h := qp_iff h7 h
                refine qp_run_E qp_ok28 2 (c' := (94, [some (.ref 0), some (.int p1), some (.int p2), some (.int p3), some (.int p4), some (.int p5)], [.int 2, .ref 0], qp_mk I8 J8)) (by with_unfolding_all rfl) hd1 trivial ?_
                obtain ⟨v10, I10, J10, e10, h⟩ := qp_bd_s h
                refine qp_cV qp_ok28 (rest := []) (oj := 0) qp_f14 rfl rfl (gX_found l G 2 I8 J8 e10 (Nat.le_refl 1)) rfl rfl rfl rfl (Nat.le_trans (by decide) hd) ?_
                obtain ⟨rfl, rfl, rfl⟩ := qp_some3 h
                exact qp_retI_E qp_ok28 rfl qp_r28.1 ⟨rfl, rfl⟩ ⟨rfl, rfl⟩
          · replace h := qp_iff h5 h
            refine qp_run_E qp_ok28 2 (c' := (59, [some (.ref 0), some (.int p1), some (.int p2), some (.int p3), some (.int p4), some (.int p5)], [.int 1, .ref 0], qp_mk I5 J5)) (by with_unfolding_all rfl) hd1 trivial ?_
            obtain ⟨v11, I11, J11, e11, h⟩ := qp_bd_s h
            refine qp_cV qp_ok28 (rest := []) (oj := 0) qp_f14 rfl rfl (gX_found l G 1 I5 J5 e11 (Nat.le_refl 1)) rfl rfl rfl rfl (Nat.le_trans (by decide) hd) ?_
            obtain ⟨rfl, rfl, rfl⟩ := qp_some3 h
            exact qp_retI_E qp_ok28 rfl qp_r28.1 ⟨rfl, rfl⟩ ⟨rfl, rfl⟩
      · replace h := qp_iff h3 h
        refine qp_run_E qp_ok28 2 (c' := (31, [some (.ref 0), some (.int p1), some (.int p2), some (.int p3), some (.int p4), some (.int p5)], [.int 5, .ref 0], qp_mk I2 J2)) (by with_unfolding_all rfl) hd1 trivial ?_
        obtain ⟨v12, I12, J12, e12, h⟩ := qp_bd_s h
        refine qp_cV qp_ok28 (rest := []) (oj := 0) qp_f14 rfl rfl (gX_found l G 5 I2 J2 e12 (Nat.le_refl 1)) rfl rfl rfl rfl (Nat.le_trans (by decide) hd) ?_
        obtain ⟨rfl, rfl, rfl⟩ := qp_some3 h
        exact qp_retI_E qp_ok28 rfl qp_r28.1 ⟨rfl, rfl⟩ ⟨rfl, rfl⟩
    · replace h := qp_iff h2 h
      refine qp_run_E qp_ok28 1 (c' := (23, [some (.ref 0), some (.int p1), some (.int p2), some (.int p3), some (.int p4), some (.int p5)], [.int (-1)], qp_mk I2 J2)) (by with_unfolding_all rfl) hd1 trivial ?_
      obtain ⟨rfl, rfl, rfl⟩ := qp_some3 h
      exact qp_retI_E qp_ok28 rfl qp_r28.1 ⟨rfl, rfl⟩ ⟨rfl, rfl⟩
def fS_sum_1_b5  : Nat → Int32 → Int64 → Int32 → (Nat → Nat → Int32) → (Nat → Nat → Int64) → Option (Int64 × (Nat → Nat → Int32) × (Nat → Nat → Int64))
  | 0, _, _, _, _, _ => none
  | n + 1, a1, a2, a4, I, J =>
    qp_bd (fS_sizeOf_1 a1 I J) fun v1 I1 J1 =>
    if v1 ≤ a4 then (
      some (a2, I1, J1)
    ) else (
      qp_bd (fS_get_1 a1 a4 I1 J1) fun v2 I2 J2 =>
      fS_sum_1_b5 n a1 (a2 + (Int32.toInt64 v2)) (a4 + 1) I2 J2
    )
set_option maxRecDepth 8000 in
theorem gS_sum_1_b5 {l : Launch} {G : qp_G} {d : Nat} (hd : 4 ≤ d) {r : (Int64 × (Nat → Nat → Int32) × (Nat → Nat → Int64))} {I0 : Nat → Nat → Int32} {J0 : Nat → Nat → Int64}   : ∀ (n : Nat) (a1 : Int32) (a2 : Int64) (a4 : Int32) (I : Nat → Nat → Int32) (J : Nat → Nat → Int64), fS_sum_1_b5  n a1 a2 a4 I J = some r → qp_E l G d 32 (qp_mk I0 J0) 0 0 (qp_R8 (some (.long r.1)) r.2.1 r.2.2) (5, [some (.ref 1), some (.int a1), some (.long a2), none, some (.int a4)], [], qp_mk I J) := by
  have hd1 : Nat.ble 1 d = true := Nat.ble_eq_true_of_le (Nat.le_trans (by decide) hd)
  intro n
  induction n with
  | zero => intro a1 a2 a4 I J h; exact absurd h (by simp [fS_sum_1_b5])
  | succ n ih =>
    intro a1 a2 a4 I J h
    rw [fS_sum_1_b5] at h
    refine qp_run_E qp_ok32 3 (c' := (9, [some (.ref 1), some (.int a1), some (.long a2), none, some (.int a4)], [.int a1, .ref 1, .int a4], qp_mk I J)) (by with_unfolding_all rfl) hd1 trivial ?_
    obtain ⟨v1, I1, J1, e1, h⟩ := qp_bd_s h
    refine qp_cV qp_ok32 (rest := [.int a4]) (oj := 1) qp_f20 rfl rfl (gS_sizeOf_1 l G a1 I J e1 (Nat.le_refl 2)) rfl rfl rfl rfl (Nat.le_trans (by decide) hd) ?_
    refine qp_br_E qp_ok32 (f := v1 ≤ a4) (ct := (32, [some (.ref 1), some (.int a1), some (.long a2), none, some (.int a4)], [], qp_mk I1 J1)) (cf := (15, [some (.ref 1), some (.int a1), some (.long a2), none, some (.int a4)], [], qp_mk I1 J1)) (by with_unfolding_all rfl) (fun h1 => ?_) (fun h1 => ?_)
    · replace h := qp_ift h1 h
      refine qp_run_E qp_ok32 1 (c' := (33, [some (.ref 1), some (.int a1), some (.long a2), none, some (.int a4)], [.long a2], qp_mk I1 J1)) (by with_unfolding_all rfl) hd1 trivial ?_
      obtain rfl := Option.some.inj h
      exact qp_retL_E qp_ok32 rfl qp_r32.1 ⟨rfl, rfl⟩ ⟨rfl, rfl⟩
    · replace h := qp_iff h1 h
      refine qp_run_E qp_ok32 4 (c' := (20, [some (.ref 1), some (.int a1), some (.long a2), none, some (.int a4)], [.int a4, .int a1, .ref 1, .long a2], qp_mk I1 J1)) (by with_unfolding_all rfl) hd1 trivial ?_
      obtain ⟨v2, I2, J2, e2, h⟩ := qp_bd_s h
      refine qp_cV qp_ok32 (rest := [.long a2]) (oj := 1) qp_f22 rfl rfl (gS_get_1 l G a1 a4 I1 J1 e2 (Nat.le_refl 3)) rfl rfl rfl rfl (Nat.le_trans (by decide) hd) ?_
      refine qp_run_E qp_ok32 5 (c' := (5, [some (.ref 1), some (.int a1), some (.long (a2 + (Int32.toInt64 v2))), none, some (.int (a4 + 1))], [], qp_mk I2 J2)) (by with_unfolding_all rfl) hd1 trivial ?_
      exact ih a1 (a2 + (Int32.toInt64 v2)) (a4 + 1) I2 J2 h
def fS_sum_1 (p1 : Int32) (I : Nat → Nat → Int32) (J : Nat → Nat → Int64) : Option (Int64 × (Nat → Nat → Int32) × (Nat → Nat → Int64)) :=
  fS_sum_1_b5 100000 p1 0 0 I J
set_option maxRecDepth 8000 in
theorem gS_sum_1 (l : Launch) (G : qp_G) (p1 : Int32) (I : Nat → Nat → Int32) (J : Nat → Nat → Int64) {v : Int64} {I' : Nat → Nat → Int32} {J' : Nat → Nat → Int64} (h : fS_sum_1 p1 I J = some (v, I', J')) {d : Nat} (hd : 4 ≤ d) : qp_Met l G d 32 [.ref 1, .int p1] (qp_mk I J) 0 0 (qp_R8 (some (.long v)) I' J') := by
  have hd1 : Nat.ble 1 d = true := Nat.ble_eq_true_of_le (Nat.le_trans (by decide) hd)
  refine qp_Met_of (by decide) (by rw [qp_r32.2]; rfl) [some (.ref 1), some (.int p1), none, none, none] (by rw [qp_r32.2]; rfl) ?_
  unfold fS_sum_1 at h
  refine qp_run_E qp_ok32 4 (c' := (5, [some (.ref 1), some (.int p1), some (.long 0), none, some (.int 0)], [], qp_mk I J)) (by with_unfolding_all rfl) hd1 trivial ?_
  exact gS_sum_1_b5 hd 100000 p1 0 0 I J h
def fX_mean (p1 : Int32) (I : Nat → Nat → Int32) (J : Nat → Nat → Int64) : Option (Int32 × (Nat → Nat → Int32) × (Nat → Nat → Int64)) :=
  qp_bd (fX_refusalOf_0_1 p1 I J) fun v1 I1 J1 =>
  if v1 = 0 then (
    qp_bd (fS_sizeOf_1 p1 I1 J1) fun v2 I2 J2 =>
    if 0 < v2 then (
      qp_bd (fS_sum_1 p1 I2 J2) fun v3 I3 J3 =>
      qp_gd ((¬ (Int32.toInt64 v2) = 0)) <|
      qp_bd (fX_tell (Int64.toInt32 (v3 / (Int32.toInt64 v2))) I3 J3) fun v4 I4 J4 =>
      some (v4, I4, J4)
    ) else (
      qp_bd (fX_found 4 I2 J2) fun v5 I5 J5 =>
      some (v5, I5, J5)
    )
  ) else (
    some (v1, I1, J1)
  )
set_option maxRecDepth 8000 in
theorem gX_mean (l : Launch) (G : qp_G) (p1 : Int32) (I : Nat → Nat → Int32) (J : Nat → Nat → Int64) {v : Int32} {I' : Nat → Nat → Int32} {J' : Nat → Nat → Int64} (h : fX_mean p1 I J = some (v, I', J')) {d : Nat} (hd : 5 ≤ d) : qp_Met l G d 31 [.ref 0, .int p1] (qp_mk I J) 0 0 (qp_R8 (some (.int v)) I' J') := by
  have hd1 : Nat.ble 1 d = true := Nat.ble_eq_true_of_le (Nat.le_trans (by decide) hd)
  refine qp_Met_of (by decide) (by rw [qp_r31.2]; rfl) [some (.ref 0), some (.int p1), none, none] (by rw [qp_r31.2]; rfl) ?_
  unfold fX_mean at h
  refine qp_run_E qp_ok31 4 (c' := (6, [some (.ref 0), some (.int p1), none, none], [.int p1, .ref 1, .ref 0], qp_mk I J)) (by with_unfolding_all rfl) hd1 trivial ?_
  obtain ⟨v1, I1, J1, e1, h⟩ := qp_bd_s h
  refine qp_cV qp_ok31 (rest := []) (oj := 0) qp_f18 rfl rfl (gX_refusalOf_0_1 l G p1 I J e1 (Nat.le_refl 4)) rfl rfl rfl rfl (Nat.le_trans (by decide) hd) ?_
  refine qp_run_E qp_ok31 2 (c' := (11, [some (.ref 0), some (.int p1), some (.int v1), none], [.int v1], qp_mk I1 J1)) (by with_unfolding_all rfl) hd1 trivial ?_
  refine qp_br_E qp_ok31 (f := v1 = 0) (ct := (16, [some (.ref 0), some (.int p1), some (.int v1), none], [], qp_mk I1 J1)) (cf := (14, [some (.ref 0), some (.int p1), some (.int v1), none], [], qp_mk I1 J1)) (by with_unfolding_all rfl) (fun h1 => ?_) (fun h1 => ?_)
  · replace h := qp_ift h1 h
    refine qp_run_E qp_ok31 3 (c' := (21, [some (.ref 0), some (.int p1), some (.int v1), none], [.int p1, .ref 1], qp_mk I1 J1)) (by with_unfolding_all rfl) hd1 trivial ?_
    obtain ⟨v2, I2, J2, e2, h⟩ := qp_bd_s h
    refine qp_cV qp_ok31 (rest := []) (oj := 1) qp_f20 rfl rfl (gS_sizeOf_1 l G p1 I1 J1 e2 (Nat.le_refl 2)) rfl rfl rfl rfl (Nat.le_trans (by decide) hd) ?_
    refine qp_run_E qp_ok31 2 (c' := (26, [some (.ref 0), some (.int p1), some (.int v1), some (.int v2)], [.int v2], qp_mk I2 J2)) (by with_unfolding_all rfl) hd1 trivial ?_
    refine qp_br_E qp_ok31 (f := 0 < v2) (ct := (35, [some (.ref 0), some (.int p1), some (.int v1), some (.int v2)], [], qp_mk I2 J2)) (cf := (29, [some (.ref 0), some (.int p1), some (.int v1), some (.int v2)], [], qp_mk I2 J2)) (by with_unfolding_all rfl) (fun h2 => ?_) (fun h2 => ?_)
    · replace h := qp_ift h2 h
      refine qp_run_E qp_ok31 4 (c' := (41, [some (.ref 0), some (.int p1), some (.int v1), some (.int v2)], [.int p1, .ref 1, .ref 0], qp_mk I2 J2)) (by with_unfolding_all rfl) hd1 trivial ?_
      obtain ⟨v3, I3, J3, e3, h⟩ := qp_bd_s h
      refine qp_cV qp_ok31 (rest := [.ref 0]) (oj := 1) qp_f32 rfl rfl (gS_sum_1 l G p1 I2 J2 e3 (Nat.le_refl 4)) rfl rfl rfl rfl (Nat.le_trans (by decide) hd) ?_
      obtain ⟨h3, h⟩ := qp_gd_s h
      refine qp_run_E qp_ok31 4 (f := ¬ ((Int32.toInt64 v2) : Int64) = 0 ∧ True) (c' := (48, [some (.ref 0), some (.int p1), some (.int v1), some (.int v2)], [.int (Int64.toInt32 (v3 / (Int32.toInt64 v2))), .ref 0], qp_mk I3 J3)) (by with_unfolding_all rfl) hd1 ⟨h3, trivial⟩ ?_
      obtain ⟨v4, I4, J4, e4, h⟩ := qp_bd_s h
      refine qp_cV qp_ok31 (rest := []) (oj := 0) qp_f24 rfl rfl (gX_tell l G (Int64.toInt32 (v3 / (Int32.toInt64 v2))) I3 J3 e4 (Nat.le_refl 1)) rfl rfl rfl rfl (Nat.le_trans (by decide) hd) ?_
      obtain ⟨rfl, rfl, rfl⟩ := qp_some3 h
      exact qp_retI_E qp_ok31 rfl qp_r31.1 ⟨rfl, rfl⟩ ⟨rfl, rfl⟩
    · replace h := qp_iff h2 h
      refine qp_run_E qp_ok31 2 (c' := (31, [some (.ref 0), some (.int p1), some (.int v1), some (.int v2)], [.int 4, .ref 0], qp_mk I2 J2)) (by with_unfolding_all rfl) hd1 trivial ?_
      obtain ⟨v5, I5, J5, e5, h⟩ := qp_bd_s h
      refine qp_cV qp_ok31 (rest := []) (oj := 0) qp_f14 rfl rfl (gX_found l G 4 I2 J2 e5 (Nat.le_refl 1)) rfl rfl rfl rfl (Nat.le_trans (by decide) hd) ?_
      obtain ⟨rfl, rfl, rfl⟩ := qp_some3 h
      exact qp_retI_E qp_ok31 rfl qp_r31.1 ⟨rfl, rfl⟩ ⟨rfl, rfl⟩
  · replace h := qp_iff h1 h
    refine qp_run_E qp_ok31 1 (c' := (15, [some (.ref 0), some (.int p1), some (.int v1), none], [.int v1], qp_mk I1 J1)) (by with_unfolding_all rfl) hd1 trivial ?_
    obtain ⟨rfl, rfl, rfl⟩ := qp_some3 h
    exact qp_retI_E qp_ok31 rfl qp_r31.1 ⟨rfl, rfl⟩ ⟨rfl, rfl⟩
def fS_isNumber_4 (p1 : Int32) (I : Nat → Nat → Int32) (J : Nat → Nat → Int64) : Option (Int32 × (Nat → Nat → Int32) × (Nat → Nat → Int64)) :=
  if p1 < 0 then (
    some (0, I, J)
  ) else (
    if 4 ≤ p1 then (
      some (0, I, J)
    ) else (
      some (1, I, J)
    )
  )
set_option maxRecDepth 8000 in
theorem gS_isNumber_4 (l : Launch) (G : qp_G) (p1 : Int32) (I : Nat → Nat → Int32) (J : Nat → Nat → Int64) {v : Int32} {I' : Nat → Nat → Int32} {J' : Nat → Nat → Int64} (h : fS_isNumber_4 p1 I J = some (v, I', J')) {d : Nat} (hd : 1 ≤ d) : qp_Met l G d 13 [.ref 4, .int p1] (qp_mk I J) 0 0 (qp_R8 (some (.int v)) I' J') := by
  have hd1 : Nat.ble 1 d = true := Nat.ble_eq_true_of_le (Nat.le_trans (by decide) hd)
  refine qp_Met_of (by decide) (by rw [qp_r13.2]; rfl) [some (.ref 4), some (.int p1)] (by rw [qp_r13.2]; rfl) ?_
  unfold fS_isNumber_4 at h
  refine qp_run_E qp_ok13 1 (c' := (1, [some (.ref 4), some (.int p1)], [.int p1], qp_mk I J)) (by with_unfolding_all rfl) hd1 trivial ?_
  refine qp_br_E qp_ok13 (f := p1 < 0) (ct := (17, [some (.ref 4), some (.int p1)], [], qp_mk I J)) (cf := (4, [some (.ref 4), some (.int p1)], [], qp_mk I J)) (by with_unfolding_all rfl) (fun h1 => ?_) (fun h1 => ?_)
  · replace h := qp_ift h1 h
    refine qp_run_E qp_ok13 1 (c' := (18, [some (.ref 4), some (.int p1)], [.int 0], qp_mk I J)) (by with_unfolding_all rfl) hd1 trivial ?_
    obtain ⟨rfl, rfl, rfl⟩ := qp_some3 h
    exact qp_retZ_E qp_ok13 rfl qp_r13.1 rfl ⟨rfl, rfl⟩ ⟨rfl, rfl⟩
  · replace h := qp_iff h1 h
    refine qp_run_E qp_ok13 4 (c' := (10, [some (.ref 4), some (.int p1)], [.int 4, .int p1], qp_mk I J)) (by with_unfolding_all rfl) hd1 trivial ?_
    refine qp_br_E qp_ok13 (f := 4 ≤ p1) (ct := (17, [some (.ref 4), some (.int p1)], [], qp_mk I J)) (cf := (13, [some (.ref 4), some (.int p1)], [], qp_mk I J)) (by with_unfolding_all rfl) (fun h2 => ?_) (fun h2 => ?_)
    · replace h := qp_ift h2 h
      refine qp_run_E qp_ok13 1 (c' := (18, [some (.ref 4), some (.int p1)], [.int 0], qp_mk I J)) (by with_unfolding_all rfl) hd1 trivial ?_
      obtain ⟨rfl, rfl, rfl⟩ := qp_some3 h
      exact qp_retZ_E qp_ok13 rfl qp_r13.1 rfl ⟨rfl, rfl⟩ ⟨rfl, rfl⟩
    · replace h := qp_iff h2 h
      refine qp_run_E qp_ok13 2 (c' := (18, [some (.ref 4), some (.int p1)], [.int 1], qp_mk I J)) (by with_unfolding_all rfl) hd1 trivial ?_
      obtain ⟨rfl, rfl, rfl⟩ := qp_some3 h
      exact qp_retZ_E qp_ok13 rfl qp_r13.1 rfl ⟨rfl, rfl⟩ ⟨rfl, rfl⟩
def fS_fresh_4_b30  : Nat → Int32 → Int32 → Int32 → Int32 → (Nat → Nat → Int32) → (Nat → Nat → Int64) → Option (Unit × (Nat → Nat → Int32) × (Nat → Nat → Int64))
  | 0, _, _, _, _, _, _ => none
  | n + 1, a1, a2, a3, a4, I, J =>
    if a2 ≤ a4 then (
      some ((), I, J)
    ) else (
      qp_gd ((0 ≤ ((a1 * (I 4 0)) + a4) ∧ ((a1 * (I 4 0)) + a4) < 240)) <|
      fS_fresh_4_b30 n a1 a2 a3 (a4 + 1) (qp_up I 6 (Int32.toNatClampNeg ((a1 * (I 4 0)) + a4)) a3) J
    )
set_option maxRecDepth 8000 in
theorem gS_fresh_4_b30 {l : Launch} {G : qp_G} {d : Nat} (hd : 2 ≤ d) {r : (Unit × (Nat → Nat → Int32) × (Nat → Nat → Int64))} {I0 : Nat → Nat → Int32} {J0 : Nat → Nat → Int64}   : ∀ (n : Nat) (a1 : Int32) (a2 : Int32) (a3 : Int32) (a4 : Int32) (I : Nat → Nat → Int32) (J : Nat → Nat → Int64), fS_fresh_4_b30  n a1 a2 a3 a4 I J = some r → qp_E l G d 15 (qp_mk I0 J0) 0 0 (qp_R8 none r.2.1 r.2.2) (30, [some (.ref 4), some (.int a1), some (.int a2), some (.int a3), some (.int a4)], [], qp_mk I J) := by
  have hd1 : Nat.ble 1 d = true := Nat.ble_eq_true_of_le (Nat.le_trans (by decide) hd)
  intro n
  induction n with
  | zero => intro a1 a2 a3 a4 I J h; exact absurd h (by simp [fS_fresh_4_b30])
  | succ n ih =>
    intro a1 a2 a3 a4 I J h
    rw [fS_fresh_4_b30] at h
    refine qp_run_E qp_ok15 2 (c' := (33, [some (.ref 4), some (.int a1), some (.int a2), some (.int a3), some (.int a4)], [.int a2, .int a4], qp_mk I J)) (by with_unfolding_all rfl) hd1 trivial ?_
    refine qp_br_E qp_ok15 (f := a2 ≤ a4) (ct := (57, [some (.ref 4), some (.int a1), some (.int a2), some (.int a3), some (.int a4)], [], qp_mk I J)) (cf := (36, [some (.ref 4), some (.int a1), some (.int a2), some (.int a3), some (.int a4)], [], qp_mk I J)) (by with_unfolding_all rfl) (fun h1 => ?_) (fun h1 => ?_)
    · replace h := qp_ift h1 h
      obtain rfl := Option.some.inj h
      exact qp_retV_E qp_ok15 rfl qp_r15.1 ⟨rfl, rfl⟩ ⟨rfl, rfl⟩
    · replace h := qp_iff h1 h
      obtain ⟨h2, h⟩ := qp_gd_s h
      refine qp_run_E qp_ok15 12 (f := vp_in ((a1 * (I 4 0)) + a4) 240 ∧ True) (c' := (30, [some (.ref 4), some (.int a1), some (.int a2), some (.int a3), some (.int (a4 + 1))], [], qp_mk (qp_up I 6 (Int32.toNatClampNeg ((a1 * (I 4 0)) + a4)) a3) J)) (by with_unfolding_all rfl) hd1 ⟨(qp_vin (c := 240) (by decide) h2.1 h2.2), trivial⟩ ?_
      exact ih a1 a2 a3 (a4 + 1) (qp_up I 6 (Int32.toNatClampNeg ((a1 * (I 4 0)) + a4)) a3) J h
def fS_fresh_4 (p1 : Int32) (p2 : Int32) (p3 : Int32) (I : Nat → Nat → Int32) (J : Nat → Nat → Int64) : Option (Unit × (Nat → Nat → Int32) × (Nat → Nat → Int64)) :=
  qp_bd (fS_isNumber_4 p1 I J) fun v1 I1 J1 =>
  if v1 = 0 then (
    some ((), I1, J1)
  ) else (
    if p2 < 0 then (
      some ((), I1, J1)
    ) else (
      if (I1 4 0) < p2 then (
        some ((), I1, J1)
      ) else (
        qp_gd ((0 ≤ p1 ∧ p1 < 4)) <|
        fS_fresh_4_b30 100000 p1 p2 p3 0 (qp_up I1 5 (Int32.toNatClampNeg p1) p2) J1
      )
    )
  )
set_option maxRecDepth 8000 in
theorem gS_fresh_4 (l : Launch) (G : qp_G) (p1 : Int32) (p2 : Int32) (p3 : Int32) (I : Nat → Nat → Int32) (J : Nat → Nat → Int64) {v : Unit} {I' : Nat → Nat → Int32} {J' : Nat → Nat → Int64} (h : fS_fresh_4 p1 p2 p3 I J = some (v, I', J')) {d : Nat} (hd : 2 ≤ d) : qp_Met l G d 15 [.ref 4, .int p1, .int p2, .int p3] (qp_mk I J) 0 0 (qp_R8 none I' J') := by
  have hd1 : Nat.ble 1 d = true := Nat.ble_eq_true_of_le (Nat.le_trans (by decide) hd)
  refine qp_Met_of (by decide) (by rw [qp_r15.2]; rfl) [some (.ref 4), some (.int p1), some (.int p2), some (.int p3), none] (by rw [qp_r15.2]; rfl) ?_
  unfold fS_fresh_4 at h
  refine qp_run_E qp_ok15 2 (c' := (2, [some (.ref 4), some (.int p1), some (.int p2), some (.int p3), none], [.int p1, .ref 4], qp_mk I J)) (by with_unfolding_all rfl) hd1 trivial ?_
  obtain ⟨v1, I1, J1, e1, h⟩ := qp_bd_s h
  refine qp_cV qp_ok15 (rest := []) (oj := 1) qp_f13 rfl rfl (gS_isNumber_4 l G p1 I J e1 (Nat.le_refl 1)) rfl rfl rfl rfl (Nat.le_trans (by decide) hd) ?_
  refine qp_br_E qp_ok15 (f := v1 = 0) (ct := (57, [some (.ref 4), some (.int p1), some (.int p2), some (.int p3), none], [], qp_mk I1 J1)) (cf := (8, [some (.ref 4), some (.int p1), some (.int p2), some (.int p3), none], [], qp_mk I1 J1)) (by with_unfolding_all rfl) (fun h1 => ?_) (fun h1 => ?_)
  · replace h := qp_ift h1 h
    obtain ⟨rfl, rfl, rfl⟩ := qp_some3 h
    exact qp_retV_E qp_ok15 rfl qp_r15.1 ⟨rfl, rfl⟩ ⟨rfl, rfl⟩
  · replace h := qp_iff h1 h
    refine qp_run_E qp_ok15 1 (c' := (9, [some (.ref 4), some (.int p1), some (.int p2), some (.int p3), none], [.int p2], qp_mk I1 J1)) (by with_unfolding_all rfl) hd1 trivial ?_
    refine qp_br_E qp_ok15 (f := p2 < 0) (ct := (57, [some (.ref 4), some (.int p1), some (.int p2), some (.int p3), none], [], qp_mk I1 J1)) (cf := (12, [some (.ref 4), some (.int p1), some (.int p2), some (.int p3), none], [], qp_mk I1 J1)) (by with_unfolding_all rfl) (fun h2 => ?_) (fun h2 => ?_)
    · replace h := qp_ift h2 h
      obtain ⟨rfl, rfl, rfl⟩ := qp_some3 h
      exact qp_retV_E qp_ok15 rfl qp_r15.1 ⟨rfl, rfl⟩ ⟨rfl, rfl⟩
    · replace h := qp_iff h2 h
      refine qp_run_E qp_ok15 3 (c' := (17, [some (.ref 4), some (.int p1), some (.int p2), some (.int p3), none], [.int (I1 4 0), .int p2], qp_mk I1 J1)) (by with_unfolding_all rfl) hd1 trivial ?_
      refine qp_br_E qp_ok15 (f := (I1 4 0) < p2) (ct := (57, [some (.ref 4), some (.int p1), some (.int p2), some (.int p3), none], [], qp_mk I1 J1)) (cf := (20, [some (.ref 4), some (.int p1), some (.int p2), some (.int p3), none], [], qp_mk I1 J1)) (by with_unfolding_all rfl) (fun h3 => ?_) (fun h3 => ?_)
      · replace h := qp_ift h3 h
        obtain ⟨rfl, rfl, rfl⟩ := qp_some3 h
        exact qp_retV_E qp_ok15 rfl qp_r15.1 ⟨rfl, rfl⟩ ⟨rfl, rfl⟩
      · replace h := qp_iff h3 h
        obtain ⟨h4, h⟩ := qp_gd_s h
        refine qp_run_E qp_ok15 7 (f := vp_in p1 4 ∧ True) (c' := (30, [some (.ref 4), some (.int p1), some (.int p2), some (.int p3), some (.int 0)], [], qp_mk (qp_up I1 5 (Int32.toNatClampNeg p1) p2) J1)) (by with_unfolding_all rfl) hd1 ⟨(qp_vin (c := 4) (by decide) h4.1 h4.2), trivial⟩ ?_
        exact gS_fresh_4_b30 hd 100000 p1 p2 p3 0 (qp_up I1 5 (Int32.toNatClampNeg p1) p2) J1 h
def fX_anew_0_4 (p2 : Int32) (p3 : Int32) (p4 : Int32) (I : Nat → Nat → Int32) (J : Nat → Nat → Int64) : Option (Int32 × (Nat → Nat → Int32) × (Nat → Nat → Int64)) :=
  qp_bd (fS_isNumber_4 p2 I J) fun v1 I1 J1 =>
  if v1 = 0 then (
    some ((-1), I1, J1)
  ) else (
    if p3 ≤ (I1 4 0) then (
      if 0 ≤ p3 then (
        qp_bd (fS_fresh_4 p2 p3 p4 I1 J1) fun _u I2 J2 =>
        some (p3, I2, J2)
      ) else (
        qp_bd (fX_found 5 I1 J1) fun v3 I3 J3 =>
        some (v3, I3, J3)
      )
    ) else (
      some ((-1), I1, J1)
    )
  )
set_option maxRecDepth 8000 in
theorem gX_anew_0_4 (l : Launch) (G : qp_G) (p2 : Int32) (p3 : Int32) (p4 : Int32) (I : Nat → Nat → Int32) (J : Nat → Nat → Int64) {v : Int32} {I' : Nat → Nat → Int32} {J' : Nat → Nat → Int64} (h : fX_anew_0_4 p2 p3 p4 I J = some (v, I', J')) {d : Nat} (hd : 3 ≤ d) : qp_Met l G d 12 [.ref 0, .ref 4, .int p2, .int p3, .int p4] (qp_mk I J) 0 0 (qp_R8 (some (.int v)) I' J') := by
  have hd1 : Nat.ble 1 d = true := Nat.ble_eq_true_of_le (Nat.le_trans (by decide) hd)
  refine qp_Met_of (by decide) (by rw [qp_r12.2]; rfl) [some (.ref 0), some (.ref 4), some (.int p2), some (.int p3), some (.int p4)] (by rw [qp_r12.2]; rfl) ?_
  unfold fX_anew_0_4 at h
  refine qp_run_E qp_ok12 2 (c' := (2, [some (.ref 0), some (.ref 4), some (.int p2), some (.int p3), some (.int p4)], [.int p2, .ref 4], qp_mk I J)) (by with_unfolding_all rfl) hd1 trivial ?_
  obtain ⟨v1, I1, J1, e1, h⟩ := qp_bd_s h
  refine qp_cV qp_ok12 (rest := []) (oj := 1) qp_f13 rfl rfl (gS_isNumber_4 l G p2 I J e1 (Nat.le_refl 1)) rfl rfl rfl rfl (Nat.le_trans (by decide) hd) ?_
  refine qp_br_E qp_ok12 (f := v1 = 0) (ct := (16, [some (.ref 0), some (.ref 4), some (.int p2), some (.int p3), some (.int p4)], [], qp_mk I1 J1)) (cf := (8, [some (.ref 0), some (.ref 4), some (.int p2), some (.int p3), some (.int p4)], [], qp_mk I1 J1)) (by with_unfolding_all rfl) (fun h1 => ?_) (fun h1 => ?_)
  · replace h := qp_ift h1 h
    refine qp_run_E qp_ok12 1 (c' := (17, [some (.ref 0), some (.ref 4), some (.int p2), some (.int p3), some (.int p4)], [.int (-1)], qp_mk I1 J1)) (by with_unfolding_all rfl) hd1 trivial ?_
    obtain ⟨rfl, rfl, rfl⟩ := qp_some3 h
    exact qp_retI_E qp_ok12 rfl qp_r12.1 ⟨rfl, rfl⟩ ⟨rfl, rfl⟩
  · replace h := qp_iff h1 h
    refine qp_run_E qp_ok12 3 (c' := (13, [some (.ref 0), some (.ref 4), some (.int p2), some (.int p3), some (.int p4)], [.int (I1 4 0), .int p3], qp_mk I1 J1)) (by with_unfolding_all rfl) hd1 trivial ?_
    refine qp_br_E qp_ok12 (f := p3 ≤ (I1 4 0)) (ct := (18, [some (.ref 0), some (.ref 4), some (.int p2), some (.int p3), some (.int p4)], [], qp_mk I1 J1)) (cf := (16, [some (.ref 0), some (.ref 4), some (.int p2), some (.int p3), some (.int p4)], [], qp_mk I1 J1)) (by with_unfolding_all rfl) (fun h2 => ?_) (fun h2 => ?_)
    · replace h := qp_ift h2 h
      refine qp_run_E qp_ok12 1 (c' := (19, [some (.ref 0), some (.ref 4), some (.int p2), some (.int p3), some (.int p4)], [.int p3], qp_mk I1 J1)) (by with_unfolding_all rfl) hd1 trivial ?_
      refine qp_br_E qp_ok12 (f := 0 ≤ p3) (ct := (28, [some (.ref 0), some (.ref 4), some (.int p2), some (.int p3), some (.int p4)], [], qp_mk I1 J1)) (cf := (22, [some (.ref 0), some (.ref 4), some (.int p2), some (.int p3), some (.int p4)], [], qp_mk I1 J1)) (by with_unfolding_all rfl) (fun h3 => ?_) (fun h3 => ?_)
      · replace h := qp_ift h3 h
        refine qp_run_E qp_ok12 4 (c' := (33, [some (.ref 0), some (.ref 4), some (.int p2), some (.int p3), some (.int p4)], [.int p4, .int p3, .int p2, .ref 4], qp_mk I1 J1)) (by with_unfolding_all rfl) hd1 trivial ?_
        obtain ⟨v2, I2, J2, e2, h⟩ := qp_bd_s h
        refine qp_cV qp_ok12 (rest := []) (oj := 1) qp_f15 rfl rfl (gS_fresh_4 l G p2 p3 p4 I1 J1 e2 (Nat.le_refl 2)) rfl rfl rfl rfl (Nat.le_trans (by decide) hd) ?_
        refine qp_run_E qp_ok12 1 (c' := (37, [some (.ref 0), some (.ref 4), some (.int p2), some (.int p3), some (.int p4)], [.int p3], qp_mk I2 J2)) (by with_unfolding_all rfl) hd1 trivial ?_
        obtain ⟨rfl, rfl, rfl⟩ := qp_some3 h
        exact qp_retI_E qp_ok12 rfl qp_r12.1 ⟨rfl, rfl⟩ ⟨rfl, rfl⟩
      · replace h := qp_iff h3 h
        refine qp_run_E qp_ok12 2 (c' := (24, [some (.ref 0), some (.ref 4), some (.int p2), some (.int p3), some (.int p4)], [.int 5, .ref 0], qp_mk I1 J1)) (by with_unfolding_all rfl) hd1 trivial ?_
        obtain ⟨v3, I3, J3, e3, h⟩ := qp_bd_s h
        refine qp_cV qp_ok12 (rest := []) (oj := 0) qp_f14 rfl rfl (gX_found l G 5 I1 J1 e3 (Nat.le_refl 1)) rfl rfl rfl rfl (Nat.le_trans (by decide) hd) ?_
        obtain ⟨rfl, rfl, rfl⟩ := qp_some3 h
        exact qp_retI_E qp_ok12 rfl qp_r12.1 ⟨rfl, rfl⟩ ⟨rfl, rfl⟩
    · replace h := qp_iff h2 h
      refine qp_run_E qp_ok12 1 (c' := (17, [some (.ref 0), some (.ref 4), some (.int p2), some (.int p3), some (.int p4)], [.int (-1)], qp_mk I1 J1)) (by with_unfolding_all rfl) hd1 trivial ?_
      obtain ⟨rfl, rfl, rfl⟩ := qp_some3 h
      exact qp_retI_E qp_ok12 rfl qp_r12.1 ⟨rfl, rfl⟩ ⟨rfl, rfl⟩
def fX_text (p1 : Int32) (p2 : Int32) (I : Nat → Nat → Int32) (J : Nat → Nat → Int64) : Option (Int32 × (Nat → Nat → Int32) × (Nat → Nat → Int64)) :=
  qp_bd (fX_anew_0_4 p1 p2 32 I J) fun v1 I1 J1 =>
  some (v1, I1, J1)
set_option maxRecDepth 8000 in
theorem gX_text (l : Launch) (G : qp_G) (p1 : Int32) (p2 : Int32) (I : Nat → Nat → Int32) (J : Nat → Nat → Int64) {v : Int32} {I' : Nat → Nat → Int32} {J' : Nat → Nat → Int64} (h : fX_text p1 p2 I J = some (v, I', J')) {d : Nat} (hd : 4 ≤ d) : qp_Met l G d 33 [.ref 0, .int p1, .int p2] (qp_mk I J) 0 0 (qp_R8 (some (.int v)) I' J') := by
  have hd1 : Nat.ble 1 d = true := Nat.ble_eq_true_of_le (Nat.le_trans (by decide) hd)
  refine qp_Met_of (by decide) (by rw [qp_r33.2]; rfl) [some (.ref 0), some (.int p1), some (.int p2)] (by rw [qp_r33.2]; rfl) ?_
  unfold fX_text at h
  refine qp_run_E qp_ok33 6 (c' := (9, [some (.ref 0), some (.int p1), some (.int p2)], [.int 32, .int p2, .int p1, .ref 4, .ref 0], qp_mk I J)) (by with_unfolding_all rfl) hd1 trivial ?_
  obtain ⟨v1, I1, J1, e1, h⟩ := qp_bd_s h
  refine qp_cV qp_ok33 (rest := []) (oj := 0) qp_f12 rfl rfl (gX_anew_0_4 l G p1 p2 32 I J e1 (Nat.le_refl 3)) rfl rfl rfl rfl (Nat.le_trans (by decide) hd) ?_
  obtain ⟨rfl, rfl, rfl⟩ := qp_some3 h
  exact qp_retI_E qp_ok33 rfl qp_r33.1 ⟨rfl, rfl⟩ ⟨rfl, rfl⟩
def fS_sizeOf_4 (p1 : Int32) (I : Nat → Nat → Int32) (J : Nat → Nat → Int64) : Option (Int32 × (Nat → Nat → Int32) × (Nat → Nat → Int64)) :=
  qp_bd (fS_isNumber_4 p1 I J) fun v1 I1 J1 =>
  if v1 = 0 then (
    some ((-1), I1, J1)
  ) else (
    qp_gd ((0 ≤ p1 ∧ p1 < 4)) <|
    some ((I1 5 (Int32.toNatClampNeg p1)), I1, J1)
  )
set_option maxRecDepth 8000 in
theorem gS_sizeOf_4 (l : Launch) (G : qp_G) (p1 : Int32) (I : Nat → Nat → Int32) (J : Nat → Nat → Int64) {v : Int32} {I' : Nat → Nat → Int32} {J' : Nat → Nat → Int64} (h : fS_sizeOf_4 p1 I J = some (v, I', J')) {d : Nat} (hd : 2 ≤ d) : qp_Met l G d 20 [.ref 4, .int p1] (qp_mk I J) 0 0 (qp_R8 (some (.int v)) I' J') := by
  have hd1 : Nat.ble 1 d = true := Nat.ble_eq_true_of_le (Nat.le_trans (by decide) hd)
  refine qp_Met_of (by decide) (by rw [qp_r20.2]; rfl) [some (.ref 4), some (.int p1)] (by rw [qp_r20.2]; rfl) ?_
  unfold fS_sizeOf_4 at h
  refine qp_run_E qp_ok20 2 (c' := (2, [some (.ref 4), some (.int p1)], [.int p1, .ref 4], qp_mk I J)) (by with_unfolding_all rfl) hd1 trivial ?_
  obtain ⟨v1, I1, J1, e1, h⟩ := qp_bd_s h
  refine qp_cV qp_ok20 (rest := []) (oj := 1) qp_f13 rfl rfl (gS_isNumber_4 l G p1 I J e1 (Nat.le_refl 1)) rfl rfl rfl rfl (Nat.le_trans (by decide) hd) ?_
  refine qp_br_E qp_ok20 (f := v1 = 0) (ct := (17, [some (.ref 4), some (.int p1)], [], qp_mk I1 J1)) (cf := (8, [some (.ref 4), some (.int p1)], [], qp_mk I1 J1)) (by with_unfolding_all rfl) (fun h1 => ?_) (fun h1 => ?_)
  · replace h := qp_ift h1 h
    refine qp_run_E qp_ok20 1 (c' := (18, [some (.ref 4), some (.int p1)], [.int (-1)], qp_mk I1 J1)) (by with_unfolding_all rfl) hd1 trivial ?_
    obtain ⟨rfl, rfl, rfl⟩ := qp_some3 h
    exact qp_retI_E qp_ok20 rfl qp_r20.1 ⟨rfl, rfl⟩ ⟨rfl, rfl⟩
  · replace h := qp_iff h1 h
    obtain ⟨h2, h⟩ := qp_gd_s h
    refine qp_run_E qp_ok20 5 (f := vp_in p1 4 ∧ True) (c' := (18, [some (.ref 4), some (.int p1)], [.int (I1 5 (Int32.toNatClampNeg p1))], qp_mk I1 J1)) (by with_unfolding_all rfl) hd1 ⟨(qp_vin (c := 4) (by decide) h2.1 h2.2), trivial⟩ ?_
    obtain ⟨rfl, rfl, rfl⟩ := qp_some3 h
    exact qp_retI_E qp_ok20 rfl qp_r20.1 ⟨rfl, rfl⟩ ⟨rfl, rfl⟩
def fS_has_4 (p1 : Int32) (I : Nat → Nat → Int32) (J : Nat → Nat → Int64) : Option (Int32 × (Nat → Nat → Int32) × (Nat → Nat → Int64)) :=
  qp_bd (fS_sizeOf_4 p1 I J) fun v1 I1 J1 =>
  if v1 = (-1) then (
    some (0, I1, J1)
  ) else (
    some (1, I1, J1)
  )
set_option maxRecDepth 8000 in
theorem gS_has_4 (l : Launch) (G : qp_G) (p1 : Int32) (I : Nat → Nat → Int32) (J : Nat → Nat → Int64) {v : Int32} {I' : Nat → Nat → Int32} {J' : Nat → Nat → Int64} (h : fS_has_4 p1 I J = some (v, I', J')) {d : Nat} (hd : 3 ≤ d) : qp_Met l G d 19 [.ref 4, .int p1] (qp_mk I J) 0 0 (qp_R8 (some (.int v)) I' J') := by
  have hd1 : Nat.ble 1 d = true := Nat.ble_eq_true_of_le (Nat.le_trans (by decide) hd)
  refine qp_Met_of (by decide) (by rw [qp_r19.2]; rfl) [some (.ref 4), some (.int p1)] (by rw [qp_r19.2]; rfl) ?_
  unfold fS_has_4 at h
  refine qp_run_E qp_ok19 2 (c' := (2, [some (.ref 4), some (.int p1)], [.int p1, .ref 4], qp_mk I J)) (by with_unfolding_all rfl) hd1 trivial ?_
  obtain ⟨v1, I1, J1, e1, h⟩ := qp_bd_s h
  refine qp_cV qp_ok19 (rest := []) (oj := 1) qp_f20 rfl rfl (gS_sizeOf_4 l G p1 I J e1 (Nat.le_refl 2)) rfl rfl rfl rfl (Nat.le_trans (by decide) hd) ?_
  refine qp_run_E qp_ok19 1 (c' := (6, [some (.ref 4), some (.int p1)], [.int (-1), .int v1], qp_mk I1 J1)) (by with_unfolding_all rfl) hd1 trivial ?_
  refine qp_br_E qp_ok19 (f := v1 = (-1)) (ct := (13, [some (.ref 4), some (.int p1)], [], qp_mk I1 J1)) (cf := (9, [some (.ref 4), some (.int p1)], [], qp_mk I1 J1)) (by with_unfolding_all rfl) (fun h1 => ?_) (fun h1 => ?_)
  · replace h := qp_ift h1 h
    refine qp_run_E qp_ok19 1 (c' := (14, [some (.ref 4), some (.int p1)], [.int 0], qp_mk I1 J1)) (by with_unfolding_all rfl) hd1 trivial ?_
    obtain ⟨rfl, rfl, rfl⟩ := qp_some3 h
    exact qp_retZ_E qp_ok19 rfl qp_r19.1 rfl ⟨rfl, rfl⟩ ⟨rfl, rfl⟩
  · replace h := qp_iff h1 h
    refine qp_run_E qp_ok19 2 (c' := (14, [some (.ref 4), some (.int p1)], [.int 1], qp_mk I1 J1)) (by with_unfolding_all rfl) hd1 trivial ?_
    obtain ⟨rfl, rfl, rfl⟩ := qp_some3 h
    exact qp_retZ_E qp_ok19 rfl qp_r19.1 rfl ⟨rfl, rfl⟩ ⟨rfl, rfl⟩
def fX_refusalOf_0_4 (p2 : Int32) (I : Nat → Nat → Int32) (J : Nat → Nat → Int64) : Option (Int32 × (Nat → Nat → Int32) × (Nat → Nat → Int64)) :=
  qp_bd (fS_isNumber_4 p2 I J) fun v1 I1 J1 =>
  if ¬ v1 = 0 then (
    qp_bd (fS_has_4 p2 I1 J1) fun v2 I2 J2 =>
    if v2 = 0 then (
      qp_bd (fX_found 1 I2 J2) fun v3 I3 J3 =>
      some (v3, I3, J3)
    ) else (
      some (0, I2, J2)
    )
  ) else (
    some ((-1), I1, J1)
  )
set_option maxRecDepth 8000 in
theorem gX_refusalOf_0_4 (l : Launch) (G : qp_G) (p2 : Int32) (I : Nat → Nat → Int32) (J : Nat → Nat → Int64) {v : Int32} {I' : Nat → Nat → Int32} {J' : Nat → Nat → Int64} (h : fX_refusalOf_0_4 p2 I J = some (v, I', J')) {d : Nat} (hd : 4 ≤ d) : qp_Met l G d 18 [.ref 0, .ref 4, .int p2] (qp_mk I J) 0 0 (qp_R8 (some (.int v)) I' J') := by
  have hd1 : Nat.ble 1 d = true := Nat.ble_eq_true_of_le (Nat.le_trans (by decide) hd)
  refine qp_Met_of (by decide) (by rw [qp_r18.2]; rfl) [some (.ref 0), some (.ref 4), some (.int p2)] (by rw [qp_r18.2]; rfl) ?_
  unfold fX_refusalOf_0_4 at h
  refine qp_run_E qp_ok18 2 (c' := (2, [some (.ref 0), some (.ref 4), some (.int p2)], [.int p2, .ref 4], qp_mk I J)) (by with_unfolding_all rfl) hd1 trivial ?_
  obtain ⟨v1, I1, J1, e1, h⟩ := qp_bd_s h
  refine qp_cV qp_ok18 (rest := []) (oj := 1) qp_f13 rfl rfl (gS_isNumber_4 l G p2 I J e1 (Nat.le_refl 1)) rfl rfl rfl rfl (Nat.le_trans (by decide) hd) ?_
  refine qp_br_E qp_ok18 (f := ¬ v1 = 0) (ct := (10, [some (.ref 0), some (.ref 4), some (.int p2)], [], qp_mk I1 J1)) (cf := (8, [some (.ref 0), some (.ref 4), some (.int p2)], [], qp_mk I1 J1)) (by with_unfolding_all rfl) (fun h1 => ?_) (fun h1 => ?_)
  · replace h := qp_ift h1 h
    refine qp_run_E qp_ok18 2 (c' := (12, [some (.ref 0), some (.ref 4), some (.int p2)], [.int p2, .ref 4], qp_mk I1 J1)) (by with_unfolding_all rfl) hd1 trivial ?_
    obtain ⟨v2, I2, J2, e2, h⟩ := qp_bd_s h
    refine qp_cV qp_ok18 (rest := []) (oj := 1) qp_f19 rfl rfl (gS_has_4 l G p2 I1 J1 e2 (Nat.le_refl 3)) rfl rfl rfl rfl (Nat.le_trans (by decide) hd) ?_
    refine qp_br_E qp_ok18 (f := v2 = 0) (ct := (22, [some (.ref 0), some (.ref 4), some (.int p2)], [], qp_mk I2 J2)) (cf := (18, [some (.ref 0), some (.ref 4), some (.int p2)], [], qp_mk I2 J2)) (by with_unfolding_all rfl) (fun h2 => ?_) (fun h2 => ?_)
    · replace h := qp_ift h2 h
      refine qp_run_E qp_ok18 2 (c' := (24, [some (.ref 0), some (.ref 4), some (.int p2)], [.int 1, .ref 0], qp_mk I2 J2)) (by with_unfolding_all rfl) hd1 trivial ?_
      obtain ⟨v3, I3, J3, e3, h⟩ := qp_bd_s h
      refine qp_cV qp_ok18 (rest := []) (oj := 0) qp_f14 rfl rfl (gX_found l G 1 I2 J2 e3 (Nat.le_refl 1)) rfl rfl rfl rfl (Nat.le_trans (by decide) hd) ?_
      obtain ⟨rfl, rfl, rfl⟩ := qp_some3 h
      exact qp_retI_E qp_ok18 rfl qp_r18.1 ⟨rfl, rfl⟩ ⟨rfl, rfl⟩
    · replace h := qp_iff h2 h
      refine qp_run_E qp_ok18 2 (c' := (27, [some (.ref 0), some (.ref 4), some (.int p2)], [.int 0], qp_mk I2 J2)) (by with_unfolding_all rfl) hd1 trivial ?_
      obtain ⟨rfl, rfl, rfl⟩ := qp_some3 h
      exact qp_retI_E qp_ok18 rfl qp_r18.1 ⟨rfl, rfl⟩ ⟨rfl, rfl⟩
  · replace h := qp_iff h1 h
    refine qp_run_E qp_ok18 1 (c' := (9, [some (.ref 0), some (.ref 4), some (.int p2)], [.int (-1)], qp_mk I1 J1)) (by with_unfolding_all rfl) hd1 trivial ?_
    obtain ⟨rfl, rfl, rfl⟩ := qp_some3 h
    exact qp_retI_E qp_ok18 rfl qp_r18.1 ⟨rfl, rfl⟩ ⟨rfl, rfl⟩
def fS_hasPlace_4 (p1 : Int32) (p2 : Int32) (I : Nat → Nat → Int32) (J : Nat → Nat → Int64) : Option (Int32 × (Nat → Nat → Int32) × (Nat → Nat → Int64)) :=
  qp_bd (fS_isNumber_4 p1 I J) fun v1 I1 J1 =>
  if v1 = 0 then (
    some (0, I1, J1)
  ) else (
    if p2 < 0 then (
      some (0, I1, J1)
    ) else (
      qp_gd ((0 ≤ p1 ∧ p1 < 4)) <|
      if (I1 5 (Int32.toNatClampNeg p1)) ≤ p2 then (
        some (0, I1, J1)
      ) else (
        some (1, I1, J1)
      )
    )
  )
set_option maxRecDepth 8000 in
theorem gS_hasPlace_4 (l : Launch) (G : qp_G) (p1 : Int32) (p2 : Int32) (I : Nat → Nat → Int32) (J : Nat → Nat → Int64) {v : Int32} {I' : Nat → Nat → Int32} {J' : Nat → Nat → Int64} (h : fS_hasPlace_4 p1 p2 I J = some (v, I', J')) {d : Nat} (hd : 2 ≤ d) : qp_Met l G d 21 [.ref 4, .int p1, .int p2] (qp_mk I J) 0 0 (qp_R8 (some (.int v)) I' J') := by
  have hd1 : Nat.ble 1 d = true := Nat.ble_eq_true_of_le (Nat.le_trans (by decide) hd)
  refine qp_Met_of (by decide) (by rw [qp_r21.2]; rfl) [some (.ref 4), some (.int p1), some (.int p2)] (by rw [qp_r21.2]; rfl) ?_
  unfold fS_hasPlace_4 at h
  refine qp_run_E qp_ok21 2 (c' := (2, [some (.ref 4), some (.int p1), some (.int p2)], [.int p1, .ref 4], qp_mk I J)) (by with_unfolding_all rfl) hd1 trivial ?_
  obtain ⟨v1, I1, J1, e1, h⟩ := qp_bd_s h
  refine qp_cV qp_ok21 (rest := []) (oj := 1) qp_f13 rfl rfl (gS_isNumber_4 l G p1 I J e1 (Nat.le_refl 1)) rfl rfl rfl rfl (Nat.le_trans (by decide) hd) ?_
  refine qp_br_E qp_ok21 (f := v1 = 0) (ct := (26, [some (.ref 4), some (.int p1), some (.int p2)], [], qp_mk I1 J1)) (cf := (8, [some (.ref 4), some (.int p1), some (.int p2)], [], qp_mk I1 J1)) (by with_unfolding_all rfl) (fun h1 => ?_) (fun h1 => ?_)
  · replace h := qp_ift h1 h
    refine qp_run_E qp_ok21 1 (c' := (27, [some (.ref 4), some (.int p1), some (.int p2)], [.int 0], qp_mk I1 J1)) (by with_unfolding_all rfl) hd1 trivial ?_
    obtain ⟨rfl, rfl, rfl⟩ := qp_some3 h
    exact qp_retZ_E qp_ok21 rfl qp_r21.1 rfl ⟨rfl, rfl⟩ ⟨rfl, rfl⟩
  · replace h := qp_iff h1 h
    refine qp_run_E qp_ok21 1 (c' := (9, [some (.ref 4), some (.int p1), some (.int p2)], [.int p2], qp_mk I1 J1)) (by with_unfolding_all rfl) hd1 trivial ?_
    refine qp_br_E qp_ok21 (f := p2 < 0) (ct := (26, [some (.ref 4), some (.int p1), some (.int p2)], [], qp_mk I1 J1)) (cf := (12, [some (.ref 4), some (.int p1), some (.int p2)], [], qp_mk I1 J1)) (by with_unfolding_all rfl) (fun h2 => ?_) (fun h2 => ?_)
    · replace h := qp_ift h2 h
      refine qp_run_E qp_ok21 1 (c' := (27, [some (.ref 4), some (.int p1), some (.int p2)], [.int 0], qp_mk I1 J1)) (by with_unfolding_all rfl) hd1 trivial ?_
      obtain ⟨rfl, rfl, rfl⟩ := qp_some3 h
      exact qp_retZ_E qp_ok21 rfl qp_r21.1 rfl ⟨rfl, rfl⟩ ⟨rfl, rfl⟩
    · replace h := qp_iff h2 h
      obtain ⟨h3, h⟩ := qp_gd_s h
      refine qp_run_E qp_ok21 5 (f := vp_in p1 4 ∧ True) (c' := (19, [some (.ref 4), some (.int p1), some (.int p2)], [.int (I1 5 (Int32.toNatClampNeg p1)), .int p2], qp_mk I1 J1)) (by with_unfolding_all rfl) hd1 ⟨(qp_vin (c := 4) (by decide) h3.1 h3.2), trivial⟩ ?_
      refine qp_br_E qp_ok21 (f := (I1 5 (Int32.toNatClampNeg p1)) ≤ p2) (ct := (26, [some (.ref 4), some (.int p1), some (.int p2)], [], qp_mk I1 J1)) (cf := (22, [some (.ref 4), some (.int p1), some (.int p2)], [], qp_mk I1 J1)) (by with_unfolding_all rfl) (fun h4 => ?_) (fun h4 => ?_)
      · replace h := qp_ift h4 h
        refine qp_run_E qp_ok21 1 (c' := (27, [some (.ref 4), some (.int p1), some (.int p2)], [.int 0], qp_mk I1 J1)) (by with_unfolding_all rfl) hd1 trivial ?_
        obtain ⟨rfl, rfl, rfl⟩ := qp_some3 h
        exact qp_retZ_E qp_ok21 rfl qp_r21.1 rfl ⟨rfl, rfl⟩ ⟨rfl, rfl⟩
      · replace h := qp_iff h4 h
        refine qp_run_E qp_ok21 2 (c' := (27, [some (.ref 4), some (.int p1), some (.int p2)], [.int 1], qp_mk I1 J1)) (by with_unfolding_all rfl) hd1 trivial ?_
        obtain ⟨rfl, rfl, rfl⟩ := qp_some3 h
        exact qp_retZ_E qp_ok21 rfl qp_r21.1 rfl ⟨rfl, rfl⟩ ⟨rfl, rfl⟩
def fX_refusalOfPlace_0_4 (p2 : Int32) (p3 : Int32) (I : Nat → Nat → Int32) (J : Nat → Nat → Int64) : Option (Int32 × (Nat → Nat → Int32) × (Nat → Nat → Int64)) :=
  qp_bd (fX_refusalOf_0_4 p2 I J) fun v1 I1 J1 =>
  if v1 = 0 then (
    qp_bd (fS_hasPlace_4 p2 p3 I1 J1) fun v2 I2 J2 =>
    if v2 = 0 then (
      qp_bd (fX_found 2 I2 J2) fun v3 I3 J3 =>
      some (v3, I3, J3)
    ) else (
      some (0, I2, J2)
    )
  ) else (
    some (v1, I1, J1)
  )
set_option maxRecDepth 8000 in
theorem gX_refusalOfPlace_0_4 (l : Launch) (G : qp_G) (p2 : Int32) (p3 : Int32) (I : Nat → Nat → Int32) (J : Nat → Nat → Int64) {v : Int32} {I' : Nat → Nat → Int32} {J' : Nat → Nat → Int64} (h : fX_refusalOfPlace_0_4 p2 p3 I J = some (v, I', J')) {d : Nat} (hd : 5 ≤ d) : qp_Met l G d 17 [.ref 0, .ref 4, .int p2, .int p3] (qp_mk I J) 0 0 (qp_R8 (some (.int v)) I' J') := by
  have hd1 : Nat.ble 1 d = true := Nat.ble_eq_true_of_le (Nat.le_trans (by decide) hd)
  refine qp_Met_of (by decide) (by rw [qp_r17.2]; rfl) [some (.ref 0), some (.ref 4), some (.int p2), some (.int p3), none] (by rw [qp_r17.2]; rfl) ?_
  unfold fX_refusalOfPlace_0_4 at h
  refine qp_run_E qp_ok17 3 (c' := (3, [some (.ref 0), some (.ref 4), some (.int p2), some (.int p3), none], [.int p2, .ref 4, .ref 0], qp_mk I J)) (by with_unfolding_all rfl) hd1 trivial ?_
  obtain ⟨v1, I1, J1, e1, h⟩ := qp_bd_s h
  refine qp_cV qp_ok17 (rest := []) (oj := 0) qp_f18 rfl rfl (gX_refusalOf_0_4 l G p2 I J e1 (Nat.le_refl 4)) rfl rfl rfl rfl (Nat.le_trans (by decide) hd) ?_
  refine qp_run_E qp_ok17 2 (c' := (10, [some (.ref 0), some (.ref 4), some (.int p2), some (.int p3), some (.int v1)], [.int v1], qp_mk I1 J1)) (by with_unfolding_all rfl) hd1 trivial ?_
  refine qp_br_E qp_ok17 (f := v1 = 0) (ct := (16, [some (.ref 0), some (.ref 4), some (.int p2), some (.int p3), some (.int v1)], [], qp_mk I1 J1)) (cf := (13, [some (.ref 0), some (.ref 4), some (.int p2), some (.int p3), some (.int v1)], [], qp_mk I1 J1)) (by with_unfolding_all rfl) (fun h1 => ?_) (fun h1 => ?_)
  · replace h := qp_ift h1 h
    refine qp_run_E qp_ok17 3 (c' := (19, [some (.ref 0), some (.ref 4), some (.int p2), some (.int p3), some (.int v1)], [.int p3, .int p2, .ref 4], qp_mk I1 J1)) (by with_unfolding_all rfl) hd1 trivial ?_
    obtain ⟨v2, I2, J2, e2, h⟩ := qp_bd_s h
    refine qp_cV qp_ok17 (rest := []) (oj := 1) qp_f21 rfl rfl (gS_hasPlace_4 l G p2 p3 I1 J1 e2 (Nat.le_refl 2)) rfl rfl rfl rfl (Nat.le_trans (by decide) hd) ?_
    refine qp_br_E qp_ok17 (f := v2 = 0) (ct := (29, [some (.ref 0), some (.ref 4), some (.int p2), some (.int p3), some (.int v1)], [], qp_mk I2 J2)) (cf := (25, [some (.ref 0), some (.ref 4), some (.int p2), some (.int p3), some (.int v1)], [], qp_mk I2 J2)) (by with_unfolding_all rfl) (fun h2 => ?_) (fun h2 => ?_)
    · replace h := qp_ift h2 h
      refine qp_run_E qp_ok17 2 (c' := (31, [some (.ref 0), some (.ref 4), some (.int p2), some (.int p3), some (.int v1)], [.int 2, .ref 0], qp_mk I2 J2)) (by with_unfolding_all rfl) hd1 trivial ?_
      obtain ⟨v3, I3, J3, e3, h⟩ := qp_bd_s h
      refine qp_cV qp_ok17 (rest := []) (oj := 0) qp_f14 rfl rfl (gX_found l G 2 I2 J2 e3 (Nat.le_refl 1)) rfl rfl rfl rfl (Nat.le_trans (by decide) hd) ?_
      obtain ⟨rfl, rfl, rfl⟩ := qp_some3 h
      exact qp_retI_E qp_ok17 rfl qp_r17.1 ⟨rfl, rfl⟩ ⟨rfl, rfl⟩
    · replace h := qp_iff h2 h
      refine qp_run_E qp_ok17 2 (c' := (34, [some (.ref 0), some (.ref 4), some (.int p2), some (.int p3), some (.int v1)], [.int 0], qp_mk I2 J2)) (by with_unfolding_all rfl) hd1 trivial ?_
      obtain ⟨rfl, rfl, rfl⟩ := qp_some3 h
      exact qp_retI_E qp_ok17 rfl qp_r17.1 ⟨rfl, rfl⟩ ⟨rfl, rfl⟩
  · replace h := qp_iff h1 h
    refine qp_run_E qp_ok17 1 (c' := (15, [some (.ref 0), some (.ref 4), some (.int p2), some (.int p3), some (.int v1)], [.int v1], qp_mk I1 J1)) (by with_unfolding_all rfl) hd1 trivial ?_
    obtain ⟨rfl, rfl, rfl⟩ := qp_some3 h
    exact qp_retI_E qp_ok17 rfl qp_r17.1 ⟨rfl, rfl⟩ ⟨rfl, rfl⟩
def fS_get_4 (p1 : Int32) (p2 : Int32) (I : Nat → Nat → Int32) (J : Nat → Nat → Int64) : Option (Int32 × (Nat → Nat → Int32) × (Nat → Nat → Int64)) :=
  qp_bd (fS_hasPlace_4 p1 p2 I J) fun v1 I1 J1 =>
  if v1 = 0 then (
    some (0, I1, J1)
  ) else (
    qp_gd ((0 ≤ ((p1 * (I1 4 0)) + p2) ∧ ((p1 * (I1 4 0)) + p2) < 240)) <|
    some ((I1 6 (Int32.toNatClampNeg ((p1 * (I1 4 0)) + p2))), I1, J1)
  )
set_option maxRecDepth 8000 in
theorem gS_get_4 (l : Launch) (G : qp_G) (p1 : Int32) (p2 : Int32) (I : Nat → Nat → Int32) (J : Nat → Nat → Int64) {v : Int32} {I' : Nat → Nat → Int32} {J' : Nat → Nat → Int64} (h : fS_get_4 p1 p2 I J = some (v, I', J')) {d : Nat} (hd : 3 ≤ d) : qp_Met l G d 22 [.ref 4, .int p1, .int p2] (qp_mk I J) 0 0 (qp_R8 (some (.int v)) I' J') := by
  have hd1 : Nat.ble 1 d = true := Nat.ble_eq_true_of_le (Nat.le_trans (by decide) hd)
  refine qp_Met_of (by decide) (by rw [qp_r22.2]; rfl) [some (.ref 4), some (.int p1), some (.int p2)] (by rw [qp_r22.2]; rfl) ?_
  unfold fS_get_4 at h
  refine qp_run_E qp_ok22 3 (c' := (3, [some (.ref 4), some (.int p1), some (.int p2)], [.int p2, .int p1, .ref 4], qp_mk I J)) (by with_unfolding_all rfl) hd1 trivial ?_
  obtain ⟨v1, I1, J1, e1, h⟩ := qp_bd_s h
  refine qp_cV qp_ok22 (rest := []) (oj := 1) qp_f21 rfl rfl (gS_hasPlace_4 l G p1 p2 I J e1 (Nat.le_refl 2)) rfl rfl rfl rfl (Nat.le_trans (by decide) hd) ?_
  refine qp_br_E qp_ok22 (f := v1 = 0) (ct := (25, [some (.ref 4), some (.int p1), some (.int p2)], [], qp_mk I1 J1)) (cf := (9, [some (.ref 4), some (.int p1), some (.int p2)], [], qp_mk I1 J1)) (by with_unfolding_all rfl) (fun h1 => ?_) (fun h1 => ?_)
  · replace h := qp_ift h1 h
    refine qp_run_E qp_ok22 1 (c' := (26, [some (.ref 4), some (.int p1), some (.int p2)], [.int 0], qp_mk I1 J1)) (by with_unfolding_all rfl) hd1 trivial ?_
    obtain ⟨rfl, rfl, rfl⟩ := qp_some3 h
    exact qp_retI_E qp_ok22 rfl qp_r22.1 ⟨rfl, rfl⟩ ⟨rfl, rfl⟩
  · replace h := qp_iff h1 h
    obtain ⟨h2, h⟩ := qp_gd_s h
    refine qp_run_E qp_ok22 10 (f := vp_in ((p1 * (I1 4 0)) + p2) 240 ∧ True) (c' := (26, [some (.ref 4), some (.int p1), some (.int p2)], [.int (I1 6 (Int32.toNatClampNeg ((p1 * (I1 4 0)) + p2)))], qp_mk I1 J1)) (by with_unfolding_all rfl) hd1 ⟨(qp_vin (c := 240) (by decide) h2.1 h2.2), trivial⟩ ?_
    obtain ⟨rfl, rfl, rfl⟩ := qp_some3 h
    exact qp_retI_E qp_ok22 rfl qp_r22.1 ⟨rfl, rfl⟩ ⟨rfl, rfl⟩
def fS_set_4 (p1 : Int32) (p2 : Int32) (p3 : Int32) (I : Nat → Nat → Int32) (J : Nat → Nat → Int64) : Option (Unit × (Nat → Nat → Int32) × (Nat → Nat → Int64)) :=
  qp_bd (fS_hasPlace_4 p1 p2 I J) fun v1 I1 J1 =>
  if v1 = 0 then (
    some ((), I1, J1)
  ) else (
    qp_gd ((0 ≤ ((p1 * (I1 4 0)) + p2) ∧ ((p1 * (I1 4 0)) + p2) < 240)) <|
    some ((), (qp_up I1 6 (Int32.toNatClampNeg ((p1 * (I1 4 0)) + p2)) p3), J1)
  )
set_option maxRecDepth 8000 in
theorem gS_set_4 (l : Launch) (G : qp_G) (p1 : Int32) (p2 : Int32) (p3 : Int32) (I : Nat → Nat → Int32) (J : Nat → Nat → Int64) {v : Unit} {I' : Nat → Nat → Int32} {J' : Nat → Nat → Int64} (h : fS_set_4 p1 p2 p3 I J = some (v, I', J')) {d : Nat} (hd : 3 ≤ d) : qp_Met l G d 23 [.ref 4, .int p1, .int p2, .int p3] (qp_mk I J) 0 0 (qp_R8 none I' J') := by
  have hd1 : Nat.ble 1 d = true := Nat.ble_eq_true_of_le (Nat.le_trans (by decide) hd)
  refine qp_Met_of (by decide) (by rw [qp_r23.2]; rfl) [some (.ref 4), some (.int p1), some (.int p2), some (.int p3)] (by rw [qp_r23.2]; rfl) ?_
  unfold fS_set_4 at h
  refine qp_run_E qp_ok23 3 (c' := (3, [some (.ref 4), some (.int p1), some (.int p2), some (.int p3)], [.int p2, .int p1, .ref 4], qp_mk I J)) (by with_unfolding_all rfl) hd1 trivial ?_
  obtain ⟨v1, I1, J1, e1, h⟩ := qp_bd_s h
  refine qp_cV qp_ok23 (rest := []) (oj := 1) qp_f21 rfl rfl (gS_hasPlace_4 l G p1 p2 I J e1 (Nat.le_refl 2)) rfl rfl rfl rfl (Nat.le_trans (by decide) hd) ?_
  refine qp_br_E qp_ok23 (f := v1 = 0) (ct := (23, [some (.ref 4), some (.int p1), some (.int p2), some (.int p3)], [], qp_mk I1 J1)) (cf := (9, [some (.ref 4), some (.int p1), some (.int p2), some (.int p3)], [], qp_mk I1 J1)) (by with_unfolding_all rfl) (fun h1 => ?_) (fun h1 => ?_)
  · replace h := qp_ift h1 h
    obtain ⟨rfl, rfl, rfl⟩ := qp_some3 h
    exact qp_retV_E qp_ok23 rfl qp_r23.1 ⟨rfl, rfl⟩ ⟨rfl, rfl⟩
  · replace h := qp_iff h1 h
    obtain ⟨h2, h⟩ := qp_gd_s h
    refine qp_run_E qp_ok23 10 (f := vp_in ((p1 * (I1 4 0)) + p2) 240 ∧ True) (c' := (23, [some (.ref 4), some (.int p1), some (.int p2), some (.int p3)], [], qp_mk (qp_up I1 6 (Int32.toNatClampNeg ((p1 * (I1 4 0)) + p2)) p3) J1)) (by with_unfolding_all rfl) hd1 ⟨(qp_vin (c := 240) (by decide) h2.1 h2.2), trivial⟩ ?_
    obtain ⟨rfl, rfl, rfl⟩ := qp_some3 h
    exact qp_retV_E qp_ok23 rfl qp_r23.1 ⟨rfl, rfl⟩ ⟨rfl, rfl⟩
def fX_put (p1 : Int32) (p2 : Int32) (p3 : Int32) (I : Nat → Nat → Int32) (J : Nat → Nat → Int64) : Option (Int32 × (Nat → Nat → Int32) × (Nat → Nat → Int64)) :=
  qp_bd (fX_refusalOfPlace_0_4 p1 p2 I J) fun v1 I1 J1 =>
  if v1 = 0 then (
    qp_bd (fS_get_4 p1 p2 I1 J1) fun v2 I2 J2 =>
    qp_bd (fS_set_4 p1 p2 ((Int32.toInt8 p3).toInt32) I2 J2) fun _u I3 J3 =>
    some ((v2 + 1000), I3, J3)
  ) else (
    some (v1, I1, J1)
  )
set_option maxRecDepth 8000 in
theorem gX_put (l : Launch) (G : qp_G) (p1 : Int32) (p2 : Int32) (p3 : Int32) (I : Nat → Nat → Int32) (J : Nat → Nat → Int64) {v : Int32} {I' : Nat → Nat → Int32} {J' : Nat → Nat → Int64} (h : fX_put p1 p2 p3 I J = some (v, I', J')) {d : Nat} (hd : 6 ≤ d) : qp_Met l G d 34 [.ref 0, .int p1, .int p2, .int p3] (qp_mk I J) 0 0 (qp_R8 (some (.int v)) I' J') := by
  have hd1 : Nat.ble 1 d = true := Nat.ble_eq_true_of_le (Nat.le_trans (by decide) hd)
  refine qp_Met_of (by decide) (by rw [qp_r34.2]; rfl) [some (.ref 0), some (.int p1), some (.int p2), some (.int p3), none, none] (by rw [qp_r34.2]; rfl) ?_
  unfold fX_put at h
  refine qp_run_E qp_ok34 5 (c' := (7, [some (.ref 0), some (.int p1), some (.int p2), some (.int p3), none, none], [.int p2, .int p1, .ref 4, .ref 0], qp_mk I J)) (by with_unfolding_all rfl) hd1 trivial ?_
  obtain ⟨v1, I1, J1, e1, h⟩ := qp_bd_s h
  refine qp_cV qp_ok34 (rest := []) (oj := 0) qp_f17 rfl rfl (gX_refusalOfPlace_0_4 l G p1 p2 I J e1 (Nat.le_refl 5)) rfl rfl rfl rfl (Nat.le_trans (by decide) hd) ?_
  refine qp_run_E qp_ok34 2 (c' := (14, [some (.ref 0), some (.int p1), some (.int p2), some (.int p3), some (.int v1), none], [.int v1], qp_mk I1 J1)) (by with_unfolding_all rfl) hd1 trivial ?_
  refine qp_br_E qp_ok34 (f := v1 = 0) (ct := (20, [some (.ref 0), some (.int p1), some (.int p2), some (.int p3), some (.int v1), none], [], qp_mk I1 J1)) (cf := (17, [some (.ref 0), some (.int p1), some (.int p2), some (.int p3), some (.int v1), none], [], qp_mk I1 J1)) (by with_unfolding_all rfl) (fun h1 => ?_) (fun h1 => ?_)
  · replace h := qp_ift h1 h
    refine qp_run_E qp_ok34 4 (c' := (26, [some (.ref 0), some (.int p1), some (.int p2), some (.int p3), some (.int v1), none], [.int p2, .int p1, .ref 4], qp_mk I1 J1)) (by with_unfolding_all rfl) hd1 trivial ?_
    obtain ⟨v2, I2, J2, e2, h⟩ := qp_bd_s h
    refine qp_cV qp_ok34 (rest := []) (oj := 1) qp_f22 rfl rfl (gS_get_4 l G p1 p2 I1 J1 e2 (Nat.le_refl 3)) rfl rfl rfl rfl (Nat.le_trans (by decide) hd) ?_
    refine qp_run_E qp_ok34 7 (c' := (39, [some (.ref 0), some (.int p1), some (.int p2), some (.int p3), some (.int v1), some (.int v2)], [.int ((Int32.toInt8 p3).toInt32), .int p2, .int p1, .ref 4], qp_mk I2 J2)) (by with_unfolding_all rfl) hd1 trivial ?_
    obtain ⟨v3, I3, J3, e3, h⟩ := qp_bd_s h
    refine qp_cV qp_ok34 (rest := []) (oj := 1) qp_f23 rfl rfl (gS_set_4 l G p1 p2 ((Int32.toInt8 p3).toInt32) I2 J2 e3 (Nat.le_refl 3)) rfl rfl rfl rfl (Nat.le_trans (by decide) hd) ?_
    refine qp_run_E qp_ok34 3 (c' := (48, [some (.ref 0), some (.int p1), some (.int p2), some (.int p3), some (.int v1), some (.int v2)], [.int (v2 + 1000)], qp_mk I3 J3)) (by with_unfolding_all rfl) hd1 trivial ?_
    obtain ⟨rfl, rfl, rfl⟩ := qp_some3 h
    exact qp_retI_E qp_ok34 rfl qp_r34.1 ⟨rfl, rfl⟩ ⟨rfl, rfl⟩
  · replace h := qp_iff h1 h
    refine qp_run_E qp_ok34 1 (c' := (19, [some (.ref 0), some (.int p1), some (.int p2), some (.int p3), some (.int v1), none], [.int v1], qp_mk I1 J1)) (by with_unfolding_all rfl) hd1 trivial ?_
    obtain ⟨rfl, rfl, rfl⟩ := qp_some3 h
    exact qp_retI_E qp_ok34 rfl qp_r34.1 ⟨rfl, rfl⟩ ⟨rfl, rfl⟩
def fC_clear_11  (I : Nat → Nat → Int32) (J : Nat → Nat → Int64) : Option (Unit × (Nat → Nat → Int32) × (Nat → Nat → Int64)) :=
  some ((), (qp_up (qp_up I 11 0 0) 11 1 0), J)
set_option maxRecDepth 8000 in
theorem gC_clear_11 (l : Launch) (G : qp_G)  (I : Nat → Nat → Int32) (J : Nat → Nat → Int64) {v : Unit} {I' : Nat → Nat → Int32} {J' : Nat → Nat → Int64} (h : fC_clear_11  I J = some (v, I', J')) {d : Nat} (hd : 1 ≤ d) : qp_Met l G d 37 [.ref 11] (qp_mk I J) 0 0 (qp_R8 none I' J') := by
  have hd1 : Nat.ble 1 d = true := Nat.ble_eq_true_of_le (Nat.le_trans (by decide) hd)
  refine qp_Met_of (by decide) (by rw [qp_r37.2]; rfl) [some (.ref 11)] (by rw [qp_r37.2]; rfl) ?_
  unfold fC_clear_11 at h
  refine qp_run_E qp_ok37 6 (c' := (10, [some (.ref 11)], [], qp_mk (qp_up (qp_up I 11 0 0) 11 1 0) J)) (by with_unfolding_all rfl) hd1 trivial ?_
  obtain ⟨rfl, rfl, rfl⟩ := qp_some3 h
  exact qp_retV_E qp_ok37 rfl qp_r37.1 ⟨rfl, rfl⟩ ⟨rfl, rfl⟩
def fR_skipBlanks_b0  : Nat → (Nat → Nat → Int32) → (Nat → Nat → Int64) → Option (Unit × (Nat → Nat → Int32) × (Nat → Nat → Int64))
  | 0, _, _ => none
  | n + 1, I, J =>
    qp_bd (fS_sizeOf_4 (I 10 2) I J) fun v1 I1 J1 =>
    if v1 ≤ (I 10 3) then (
      some ((), I1, J1)
    ) else (
      qp_bd (fS_get_4 (I1 10 2) (I1 10 3) I1 J1) fun v2 I2 J2 =>
      if ¬ v2 = 32 then (
        some ((), I2, J2)
      ) else (
        fR_skipBlanks_b0 n  (qp_up I2 10 3 ((I2 10 3) + 1)) J2
      )
    )
set_option maxRecDepth 8000 in
theorem gR_skipBlanks_b0 {l : Launch} {G : qp_G} {d : Nat} (hd : 4 ≤ d) {r : (Unit × (Nat → Nat → Int32) × (Nat → Nat → Int64))} {I0 : Nat → Nat → Int32} {J0 : Nat → Nat → Int64}   : ∀ (n : Nat)  (I : Nat → Nat → Int32) (J : Nat → Nat → Int64), fR_skipBlanks_b0  n I J = some r → qp_E l G d 38 (qp_mk I0 J0) 0 0 (qp_R8 none r.2.1 r.2.2) (0, [some (.ref 10)], [], qp_mk I J) := by
  have hd1 : Nat.ble 1 d = true := Nat.ble_eq_true_of_le (Nat.le_trans (by decide) hd)
  intro n
  induction n with
  | zero => intro I J h; exact absurd h (by simp [fR_skipBlanks_b0])
  | succ n ih =>
    intro I J h
    rw [fR_skipBlanks_b0] at h
    refine qp_run_E qp_ok38 6 (c' := (12, [some (.ref 10)], [.int (I 10 2), .ref 4, .int (I 10 3)], qp_mk I J)) (by with_unfolding_all rfl) hd1 trivial ?_
    obtain ⟨v1, I1, J1, e1, h⟩ := qp_bd_s h
    refine qp_cV qp_ok38 (rest := [.int (I 10 3)]) (oj := 1) qp_f20 rfl rfl (gS_sizeOf_4 l G (I 10 2) I J e1 (Nat.le_refl 2)) rfl rfl rfl rfl (Nat.le_trans (by decide) hd) ?_
    refine qp_br_E qp_ok38 (f := v1 ≤ (I 10 3)) (ct := (51, [some (.ref 10)], [], qp_mk I1 J1)) (cf := (18, [some (.ref 10)], [], qp_mk I1 J1)) (by with_unfolding_all rfl) (fun h1 => ?_) (fun h1 => ?_)
    · replace h := qp_ift h1 h
      obtain rfl := Option.some.inj h
      exact qp_retV_E qp_ok38 rfl qp_r38.1 ⟨rfl, rfl⟩ ⟨rfl, rfl⟩
    · replace h := qp_iff h1 h
      refine qp_run_E qp_ok38 6 (c' := (30, [some (.ref 10)], [.int (I1 10 3), .int (I1 10 2), .ref 4], qp_mk I1 J1)) (by with_unfolding_all rfl) hd1 trivial ?_
      obtain ⟨v2, I2, J2, e2, h⟩ := qp_bd_s h
      refine qp_cV qp_ok38 (rest := []) (oj := 1) qp_f22 rfl rfl (gS_get_4 l G (I1 10 2) (I1 10 3) I1 J1 e2 (Nat.le_refl 3)) rfl rfl rfl rfl (Nat.le_trans (by decide) hd) ?_
      refine qp_run_E qp_ok38 1 (c' := (35, [some (.ref 10)], [.int 32, .int v2], qp_mk I2 J2)) (by with_unfolding_all rfl) hd1 trivial ?_
      refine qp_br_E qp_ok38 (f := ¬ v2 = 32) (ct := (51, [some (.ref 10)], [], qp_mk I2 J2)) (cf := (38, [some (.ref 10)], [], qp_mk I2 J2)) (by with_unfolding_all rfl) (fun h2 => ?_) (fun h2 => ?_)
      · replace h := qp_ift h2 h
        obtain rfl := Option.some.inj h
        exact qp_retV_E qp_ok38 rfl qp_r38.1 ⟨rfl, rfl⟩ ⟨rfl, rfl⟩
      · replace h := qp_iff h2 h
        refine qp_run_E qp_ok38 7 (c' := (0, [some (.ref 10)], [], qp_mk (qp_up I2 10 3 ((I2 10 3) + 1)) J2)) (by with_unfolding_all rfl) hd1 trivial ?_
        exact ih  (qp_up I2 10 3 ((I2 10 3) + 1)) J2 h
def fR_skipBlanks  (I : Nat → Nat → Int32) (J : Nat → Nat → Int64) : Option (Unit × (Nat → Nat → Int32) × (Nat → Nat → Int64)) :=
  fR_skipBlanks_b0 100000 I J
set_option maxRecDepth 8000 in
theorem gR_skipBlanks (l : Launch) (G : qp_G)  (I : Nat → Nat → Int32) (J : Nat → Nat → Int64) {v : Unit} {I' : Nat → Nat → Int32} {J' : Nat → Nat → Int64} (h : fR_skipBlanks  I J = some (v, I', J')) {d : Nat} (hd : 4 ≤ d) : qp_Met l G d 38 [.ref 10] (qp_mk I J) 0 0 (qp_R8 none I' J') := by
  have hd1 : Nat.ble 1 d = true := Nat.ble_eq_true_of_le (Nat.le_trans (by decide) hd)
  refine qp_Met_of (by decide) (by rw [qp_r38.2]; rfl) [some (.ref 10)] (by rw [qp_r38.2]; rfl) ?_
  unfold fR_skipBlanks at h
  exact gR_skipBlanks_b0 hd 100000 I J h
def fR_figureAt (p1 : Int32) (I : Nat → Nat → Int32) (J : Nat → Nat → Int64) : Option (Int32 × (Nat → Nat → Int32) × (Nat → Nat → Int64)) :=
  qp_bd (fS_get_4 (I 10 2) p1 I J) fun v1 I1 J1 =>
  qp_bd (fS_hasPlace_4 (I1 10 2) p1 I1 J1) fun v2 I2 J2 =>
  if v2 = 0 then (
    some ((-1), I2, J2)
  ) else (
    if v1 < 48 then (
      some ((-1), I2, J2)
    ) else (
      if 57 < v1 then (
        some ((-1), I2, J2)
      ) else (
        some ((v1 - 48), I2, J2)
      )
    )
  )
set_option maxRecDepth 8000 in
theorem gR_figureAt (l : Launch) (G : qp_G) (p1 : Int32) (I : Nat → Nat → Int32) (J : Nat → Nat → Int64) {v : Int32} {I' : Nat → Nat → Int32} {J' : Nat → Nat → Int64} (h : fR_figureAt p1 I J = some (v, I', J')) {d : Nat} (hd : 4 ≤ d) : qp_Met l G d 40 [.ref 10, .int p1] (qp_mk I J) 0 0 (qp_R8 (some (.int v)) I' J') := by
  have hd1 : Nat.ble 1 d = true := Nat.ble_eq_true_of_le (Nat.le_trans (by decide) hd)
  refine qp_Met_of (by decide) (by rw [qp_r40.2]; rfl) [some (.ref 10), some (.int p1), none, none] (by rw [qp_r40.2]; rfl) ?_
  unfold fR_figureAt at h
  refine qp_run_E qp_ok40 5 (c' := (9, [some (.ref 10), some (.int p1), none, none], [.int p1, .int (I 10 2), .ref 4], qp_mk I J)) (by with_unfolding_all rfl) hd1 trivial ?_
  obtain ⟨v1, I1, J1, e1, h⟩ := qp_bd_s h
  refine qp_cV qp_ok40 (rest := []) (oj := 1) qp_f22 rfl rfl (gS_get_4 l G (I 10 2) p1 I J e1 (Nat.le_refl 3)) rfl rfl rfl rfl (Nat.le_trans (by decide) hd) ?_
  refine qp_run_E qp_ok40 6 (c' := (22, [some (.ref 10), some (.int p1), some (.int v1), none], [.int p1, .int (I1 10 2), .ref 4], qp_mk I1 J1)) (by with_unfolding_all rfl) hd1 trivial ?_
  obtain ⟨v2, I2, J2, e2, h⟩ := qp_bd_s h
  refine qp_cV qp_ok40 (rest := []) (oj := 1) qp_f21 rfl rfl (gS_hasPlace_4 l G (I1 10 2) p1 I1 J1 e2 (Nat.le_refl 2)) rfl rfl rfl rfl (Nat.le_trans (by decide) hd) ?_
  refine qp_br_E qp_ok40 (f := v2 = 0) (ct := (44, [some (.ref 10), some (.int p1), some (.int v1), none], [], qp_mk I2 J2)) (cf := (28, [some (.ref 10), some (.int p1), some (.int v1), none], [], qp_mk I2 J2)) (by with_unfolding_all rfl) (fun h1 => ?_) (fun h1 => ?_)
  · replace h := qp_ift h1 h
    refine qp_run_E qp_ok40 3 (c' := (47, [some (.ref 10), some (.int p1), some (.int v1), some (.int 0)], [.int 0], qp_mk I2 J2)) (by with_unfolding_all rfl) hd1 trivial ?_
    refine qp_br_E qp_ok40 (f := (0 : Int32) = 0) (ct := (57, [some (.ref 10), some (.int p1), some (.int v1), some (.int 0)], [], qp_mk I2 J2)) (cf := (50, [some (.ref 10), some (.int p1), some (.int v1), some (.int 0)], [], qp_mk I2 J2)) (by with_unfolding_all rfl) (fun h2 => ?_) (fun h2 => ?_)
    rotate_left
    · exact absurd (show (0 : Int32) = 0 by decide) h2
    refine qp_run_E qp_ok40 1 (c' := (58, [some (.ref 10), some (.int p1), some (.int v1), some (.int 0)], [.int (-1)], qp_mk I2 J2)) (by with_unfolding_all rfl) hd1 trivial ?_
    obtain ⟨rfl, rfl, rfl⟩ := qp_some3 h
    exact qp_retI_E qp_ok40 rfl qp_r40.1 ⟨rfl, rfl⟩ ⟨rfl, rfl⟩
  · replace h := qp_iff h1 h
    refine qp_run_E qp_ok40 2 (c' := (31, [some (.ref 10), some (.int p1), some (.int v1), none], [.int 48, .int v1], qp_mk I2 J2)) (by with_unfolding_all rfl) hd1 trivial ?_
    refine qp_br_E qp_ok40 (f := v1 < 48) (ct := (44, [some (.ref 10), some (.int p1), some (.int v1), none], [], qp_mk I2 J2)) (cf := (34, [some (.ref 10), some (.int p1), some (.int v1), none], [], qp_mk I2 J2)) (by with_unfolding_all rfl) (fun h3 => ?_) (fun h3 => ?_)
    · replace h := qp_ift h3 h
      refine qp_run_E qp_ok40 3 (c' := (47, [some (.ref 10), some (.int p1), some (.int v1), some (.int 0)], [.int 0], qp_mk I2 J2)) (by with_unfolding_all rfl) hd1 trivial ?_
      refine qp_br_E qp_ok40 (f := (0 : Int32) = 0) (ct := (57, [some (.ref 10), some (.int p1), some (.int v1), some (.int 0)], [], qp_mk I2 J2)) (cf := (50, [some (.ref 10), some (.int p1), some (.int v1), some (.int 0)], [], qp_mk I2 J2)) (by with_unfolding_all rfl) (fun h4 => ?_) (fun h4 => ?_)
      rotate_left
      · exact absurd (show (0 : Int32) = 0 by decide) h4
      refine qp_run_E qp_ok40 1 (c' := (58, [some (.ref 10), some (.int p1), some (.int v1), some (.int 0)], [.int (-1)], qp_mk I2 J2)) (by with_unfolding_all rfl) hd1 trivial ?_
      obtain ⟨rfl, rfl, rfl⟩ := qp_some3 h
      exact qp_retI_E qp_ok40 rfl qp_r40.1 ⟨rfl, rfl⟩ ⟨rfl, rfl⟩
    · replace h := qp_iff h3 h
      refine qp_run_E qp_ok40 2 (c' := (37, [some (.ref 10), some (.int p1), some (.int v1), none], [.int 57, .int v1], qp_mk I2 J2)) (by with_unfolding_all rfl) hd1 trivial ?_
      refine qp_br_E qp_ok40 (f := 57 < v1) (ct := (44, [some (.ref 10), some (.int p1), some (.int v1), none], [], qp_mk I2 J2)) (cf := (40, [some (.ref 10), some (.int p1), some (.int v1), none], [], qp_mk I2 J2)) (by with_unfolding_all rfl) (fun h5 => ?_) (fun h5 => ?_)
      · replace h := qp_ift h5 h
        refine qp_run_E qp_ok40 3 (c' := (47, [some (.ref 10), some (.int p1), some (.int v1), some (.int 0)], [.int 0], qp_mk I2 J2)) (by with_unfolding_all rfl) hd1 trivial ?_
        refine qp_br_E qp_ok40 (f := (0 : Int32) = 0) (ct := (57, [some (.ref 10), some (.int p1), some (.int v1), some (.int 0)], [], qp_mk I2 J2)) (cf := (50, [some (.ref 10), some (.int p1), some (.int v1), some (.int 0)], [], qp_mk I2 J2)) (by with_unfolding_all rfl) (fun h6 => ?_) (fun h6 => ?_)
        rotate_left
        · exact absurd (show (0 : Int32) = 0 by decide) h6
        refine qp_run_E qp_ok40 1 (c' := (58, [some (.ref 10), some (.int p1), some (.int v1), some (.int 0)], [.int (-1)], qp_mk I2 J2)) (by with_unfolding_all rfl) hd1 trivial ?_
        obtain ⟨rfl, rfl, rfl⟩ := qp_some3 h
        exact qp_retI_E qp_ok40 rfl qp_r40.1 ⟨rfl, rfl⟩ ⟨rfl, rfl⟩
      · replace h := qp_iff h5 h
        refine qp_run_E qp_ok40 4 (c' := (47, [some (.ref 10), some (.int p1), some (.int v1), some (.int 1)], [.int 1], qp_mk I2 J2)) (by with_unfolding_all rfl) hd1 trivial ?_
        refine qp_br_E qp_ok40 (f := (1 : Int32) = 0) (ct := (57, [some (.ref 10), some (.int p1), some (.int v1), some (.int 1)], [], qp_mk I2 J2)) (cf := (50, [some (.ref 10), some (.int p1), some (.int v1), some (.int 1)], [], qp_mk I2 J2)) (by with_unfolding_all rfl) (fun h7 => ?_) (fun h7 => ?_)
        · exact absurd h7 (show ¬ ((1 : Int32) = 0) by decide)
        refine qp_run_E qp_ok40 4 (c' := (58, [some (.ref 10), some (.int p1), some (.int v1), some (.int 1)], [.int (v1 - 48)], qp_mk I2 J2)) (by with_unfolding_all rfl) hd1 trivial ?_
        obtain ⟨rfl, rfl, rfl⟩ := qp_some3 h
        exact qp_retI_E qp_ok40 rfl qp_r40.1 ⟨rfl, rfl⟩ ⟨rfl, rfl⟩
def fR_readLoaves  (I : Nat → Nat → Int32) (J : Nat → Nat → Int64) : Option (Int32 × (Nat → Nat → Int32) × (Nat → Nat → Int64)) :=
  qp_bd (fR_figureAt (I 10 3) I J) fun v1 I1 J1 =>
  if 0 ≤ v1 then (
    qp_bd (fR_figureAt ((I1 10 3) + 1) I1 J1) fun v2 I2 J2 =>
    if 0 ≤ v2 then (
      if (((10 : Int32) * v1) + v2) ≤ 20 then (
        some (1, (qp_up (qp_up I2 11 1 (((10 : Int32) * v1) + v2)) 10 3 ((I2 10 3) + 2)), J2)
      ) else (
        some (0, (qp_up I2 11 1 (((10 : Int32) * v1) + v2)), J2)
      )
    ) else (
      some (0, (qp_up I2 10 3 ((I2 10 3) + 1)), J2)
    )
  ) else (
    some (0, I1, J1)
  )
set_option maxRecDepth 8000 in
theorem gR_readLoaves (l : Launch) (G : qp_G)  (I : Nat → Nat → Int32) (J : Nat → Nat → Int64) {v : Int32} {I' : Nat → Nat → Int32} {J' : Nat → Nat → Int64} (h : fR_readLoaves  I J = some (v, I', J')) {d : Nat} (hd : 5 ≤ d) : qp_Met l G d 39 [.ref 10] (qp_mk I J) 0 0 (qp_R8 (some (.int v)) I' J') := by
  have hd1 : Nat.ble 1 d = true := Nat.ble_eq_true_of_le (Nat.le_trans (by decide) hd)
  refine qp_Met_of (by decide) (by rw [qp_r39.2]; rfl) [some (.ref 10), none, none] (by rw [qp_r39.2]; rfl) ?_
  unfold fR_readLoaves at h
  refine qp_run_E qp_ok39 3 (c' := (5, [some (.ref 10), none, none], [.int (I 10 3), .ref 10], qp_mk I J)) (by with_unfolding_all rfl) hd1 trivial ?_
  obtain ⟨v1, I1, J1, e1, h⟩ := qp_bd_s h
  refine qp_cV qp_ok39 (rest := []) (oj := 2) qp_f40 rfl rfl (gR_figureAt l G (I 10 3) I J e1 (Nat.le_refl 4)) rfl rfl rfl rfl (Nat.le_trans (by decide) hd) ?_
  refine qp_run_E qp_ok39 2 (c' := (10, [some (.ref 10), some (.int v1), none], [.int v1], qp_mk I1 J1)) (by with_unfolding_all rfl) hd1 trivial ?_
  refine qp_br_E qp_ok39 (f := 0 ≤ v1) (ct := (15, [some (.ref 10), some (.int v1), none], [], qp_mk I1 J1)) (cf := (13, [some (.ref 10), some (.int v1), none], [], qp_mk I1 J1)) (by with_unfolding_all rfl) (fun h1 => ?_) (fun h1 => ?_)
  · replace h := qp_ift h1 h
    refine qp_run_E qp_ok39 5 (c' := (22, [some (.ref 10), some (.int v1), none], [.int ((I1 10 3) + 1), .ref 10], qp_mk I1 J1)) (by with_unfolding_all rfl) hd1 trivial ?_
    obtain ⟨v2, I2, J2, e2, h⟩ := qp_bd_s h
    refine qp_cV qp_ok39 (rest := []) (oj := 2) qp_f40 rfl rfl (gR_figureAt l G ((I1 10 3) + 1) I1 J1 e2 (Nat.le_refl 4)) rfl rfl rfl rfl (Nat.le_trans (by decide) hd) ?_
    refine qp_run_E qp_ok39 2 (c' := (27, [some (.ref 10), some (.int v1), some (.int v2)], [.int v2], qp_mk I2 J2)) (by with_unfolding_all rfl) hd1 trivial ?_
    refine qp_br_E qp_ok39 (f := 0 ≤ v2) (ct := (42, [some (.ref 10), some (.int v1), some (.int v2)], [], qp_mk I2 J2)) (cf := (30, [some (.ref 10), some (.int v1), some (.int v2)], [], qp_mk I2 J2)) (by with_unfolding_all rfl) (fun h2 => ?_) (fun h2 => ?_)
    · replace h := qp_ift h2 h
      refine qp_run_E qp_ok39 12 (c' := (64, [some (.ref 10), some (.int v1), some (.int v2)], [.int 20, .int (((10 : Int32) * v1) + v2)], qp_mk (qp_up I2 11 1 (((10 : Int32) * v1) + v2)) J2)) (by with_unfolding_all rfl) hd1 trivial ?_
      refine qp_br_E qp_ok39 (f := (((10 : Int32) * v1) + v2) ≤ 20) (ct := (69, [some (.ref 10), some (.int v1), some (.int v2)], [], qp_mk (qp_up I2 11 1 (((10 : Int32) * v1) + v2)) J2)) (cf := (67, [some (.ref 10), some (.int v1), some (.int v2)], [], qp_mk (qp_up I2 11 1 (((10 : Int32) * v1) + v2)) J2)) (by with_unfolding_all rfl) (fun h3 => ?_) (fun h3 => ?_)
      · replace h := qp_ift h3 h
        refine qp_run_E qp_ok39 7 (c' := (80, [some (.ref 10), some (.int v1), some (.int v2)], [.int 1], qp_mk (qp_up (qp_up I2 11 1 (((10 : Int32) * v1) + v2)) 10 3 ((I2 10 3) + 2)) J2)) (by with_unfolding_all rfl) hd1 trivial ?_
        obtain ⟨rfl, rfl, rfl⟩ := qp_some3 h
        exact qp_retZ_E qp_ok39 rfl qp_r39.1 rfl ⟨rfl, rfl⟩ ⟨rfl, rfl⟩
      · replace h := qp_iff h3 h
        refine qp_run_E qp_ok39 1 (c' := (68, [some (.ref 10), some (.int v1), some (.int v2)], [.int 0], qp_mk (qp_up I2 11 1 (((10 : Int32) * v1) + v2)) J2)) (by with_unfolding_all rfl) hd1 trivial ?_
        obtain ⟨rfl, rfl, rfl⟩ := qp_some3 h
        exact qp_retZ_E qp_ok39 rfl qp_r39.1 rfl ⟨rfl, rfl⟩ ⟨rfl, rfl⟩
    · replace h := qp_iff h2 h
      refine qp_run_E qp_ok39 7 (c' := (41, [some (.ref 10), some (.int v1), some (.int v2)], [.int 0], qp_mk (qp_up I2 10 3 ((I2 10 3) + 1)) J2)) (by with_unfolding_all rfl) hd1 trivial ?_
      obtain ⟨rfl, rfl, rfl⟩ := qp_some3 h
      exact qp_retZ_E qp_ok39 rfl qp_r39.1 rfl ⟨rfl, rfl⟩ ⟨rfl, rfl⟩
  · replace h := qp_iff h1 h
    refine qp_run_E qp_ok39 1 (c' := (14, [some (.ref 10), some (.int v1), none], [.int 0], qp_mk I1 J1)) (by with_unfolding_all rfl) hd1 trivial ?_
    obtain ⟨rfl, rfl, rfl⟩ := qp_some3 h
    exact qp_retZ_E qp_ok39 rfl qp_r39.1 rfl ⟨rfl, rfl⟩ ⟨rfl, rfl⟩
end

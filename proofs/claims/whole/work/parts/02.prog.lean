/-! THE PROGRAM AS TABLES (printed by a program of mine out of the bytecode): classes, fields, methods, code -/
def qp_RL : List String := ["QueuePlaces", "QueuePlaces$Shelf", "QueuePlaces$Reader", "QueuePlaces$Crowd", "QueuePlaces$Line", "QueuePlaces$Serving", "QueuePlaces$Search", "QueuePlaces$Orders", "QueuePlaces$Match", "QueuePlaces$Chances", "QueuePlacesModel", "QueuePlaces$Order", "java/lang/Integer", "java/lang/Math", "QueuePlacesLaw"]
def qp_R (o : Nat) : String := qp_RL.getD o ""
def qp_FL : List (List (String × String × Bool)) := [
  [("rows", "LQueuePlaces$Shelf;", true), ("texts", "LQueuePlaces$Shelf;", true), ("kept", "LQueuePlaces$Shelf;", true), ("reader", "LQueuePlaces$Reader;", true), ("line", "LQueuePlaces$Line;", true), ("search", "LQueuePlaces$Search;", true), ("orders", "LQueuePlaces$Orders;", true), ("match", "LQueuePlaces$Match;", true), ("chances", "LQueuePlaces$Chances;", true), ("findingCounts", "[I", true), ("latestFinding", "I", false), ("told", "I", false), ("above", "J", false), ("below", "J", false)],
  [("most", "I", true), ("sizes", "[I", true), ("places", "[I", true)],
  [("crowd", "LQueuePlaces$Crowd;", true), ("texts", "LQueuePlaces$Shelf;", true), ("text", "I", false), ("place", "I", false)],
  [("size", "I", false), ("loaves", "I", false), ("kinds", "[I", true), ("patience", "[I", true)],
  [("crowd", "LQueuePlaces$Crowd;", true), ("serving", "LQueuePlaces$Serving;", true), ("order", "I", false), ("loaves", "I", false), ("tickets", "I", false), ("done", "I", false), ("sales", "[I", true), ("deeds", "[I", true)],
  [("turnedAway", "I", false), ("content", "I", false), ("crowd", "LQueuePlaces$Crowd;", true), ("loaves", "I", false), ("left", "I", false), ("served", "I", false), ("wanted", "[I", true), ("gained", "[I", true), ("turns", "[I", true), ("leftThen", "[I", true)],
  [("line", "LQueuePlaces$Line;", true), ("orders", "[I", true), ("paths", "[I", true), ("seen", "[Z", true), ("reached", "I", false), ("path", "I", false)],
  [("total", "I", false), ("line", "LQueuePlaces$Line;", true), ("known", "[I", true), ("possible", "[I", true), ("parts", "[I", true)],
  [("line", "LQueuePlaces$Line;", true), ("first", "I", false), ("second", "I", false)],
  [("line", "LQueuePlaces$Line;", true), ("size", "I", false)],
  [("now", "[I", true), ("kept", "[I", true), ("isKept", "[Z", true), ("rows", "[I", true), ("rowLong", "[I", true), ("texts", "[I", true), ("textLong", "[I", true), ("found", "[I", true), ("latest", "I", false), ("askedIs", "I", false), ("above", "J", false), ("below", "J", false), ("taken", "[I", true), ("anew", "[I", true), ("place0", "I", false), ("hand", "[I", true), ("got", "[I", true), ("behind", "[I", true), ("leftFor", "[I", true), ("wanted", "[I", true), ("left", "I", false), ("steps", "[I", true), ("order", "[I", true), ("parts", "[I", true), ("choices", "[I", true), ("values", "[I", true), ("there", "[I", true)]]
def qp_T (ci : Nat) : u_T := fun k => (qp_R ci, (qp_FL.getD ci []).getD k ("", "", false))
def qp_NL : List Nat := [14, 3, 4, 4, 8, 10, 6, 5, 3, 2, 27]
def qp_N (ci : Nat) : Nat := qp_NL.getD ci 0
def qp_tyL : List (List FieldType) := [
  [.object "QueuePlaces$Shelf", .object "QueuePlaces$Shelf", .object "QueuePlaces$Shelf", .object "QueuePlaces$Reader", .object "QueuePlaces$Line", .object "QueuePlaces$Search", .object "QueuePlaces$Orders", .object "QueuePlaces$Match", .object "QueuePlaces$Chances", .array .int, .int, .int, .long, .long],
  [.int, .array .int, .array .int],
  [.object "QueuePlaces$Crowd", .object "QueuePlaces$Shelf", .int, .int],
  [.int, .int, .array .int, .array .int],
  [.object "QueuePlaces$Crowd", .object "QueuePlaces$Serving", .int, .int, .int, .int, .array .int, .array .int],
  [.int, .int, .object "QueuePlaces$Crowd", .int, .int, .int, .array .int, .array .int, .array .int, .array .int],
  [.object "QueuePlaces$Line", .array .int, .array .int, .array .boolean, .int, .int],
  [.int, .object "QueuePlaces$Line", .array .int, .array .int, .array .int],
  [.object "QueuePlaces$Line", .int, .int],
  [.object "QueuePlaces$Line", .int],
  [.array .int, .array .int, .array .boolean, .array .int, .array .int, .array .int, .array .int, .array .int, .int, .int, .long, .long, .array .int, .array .int, .int, .array .int, .array .int, .array .int, .array .int, .array .int, .int, .array .int, .array .int, .array .int, .array .int, .array .int, .array .int]]
def qp_ty (ci : Nat) : Nat → FieldType := fun k => (qp_tyL.getD ci []).getD k .int
def qp_nth {α : Type} : List α → Nat → Option α
  | [], _ => none
  | v :: _, 0 => some v
  | _ :: t, n + 1 => qp_nth t n
def qp_lk {α : Type} : List (Nat × α) → Nat → Option α
  | [], _ => none
  | q :: t, i => bif Nat.beq q.1 i then some q.2 else qp_lk t i
/-- a field's kind: 0 int, 1 long, 2 reference; and whether it is final -/
def qp_ftL : Nat → List (Nat × Bool)
  | 0 => [(2, true), (2, true), (2, true), (2, true), (2, true), (2, true), (2, true), (2, true), (2, true), (2, true), (0, false), (0, false), (1, false), (1, false)]
  | 1 => [(0, true), (2, true), (2, true)]
  | 2 => [(2, true), (2, true), (0, false), (0, false)]
  | 3 => [(0, false), (0, false), (2, true), (2, true)]
  | 4 => [(2, true), (2, true), (0, false), (0, false), (0, false), (0, false), (2, true), (2, true)]
  | 5 => [(0, false), (0, false), (2, true), (0, false), (0, false), (0, false), (2, true), (2, true), (2, true), (2, true)]
  | 6 => [(2, true), (2, true), (2, true), (2, true), (0, false), (0, false)]
  | 7 => [(0, false), (2, true), (2, true), (2, true), (2, true)]
  | 8 => [(2, true), (0, false), (0, false)]
  | 9 => [(2, true), (0, false)]
  | 10 => [(2, true), (2, true), (2, true), (2, true), (2, true), (2, true), (2, true), (2, true), (0, false), (0, false), (1, false), (1, false), (2, true), (2, true), (0, false), (2, true), (2, true), (2, true), (2, true), (2, true), (0, false), (2, true), (2, true), (2, true), (2, true), (2, true), (2, true)]
  | _ => []
def qp_ft (ci k : Nat) : Nat := match qp_nth (qp_ftL ci) k with
  | some x => x.1
  | none => 0
def qp_fin (ci k : Nat) : Bool := match qp_nth (qp_ftL ci) k with
  | some x => x.2
  | none => false
/-- what an entry of a class's constant pool names: fields (100 times the class, and the place), methods (10 times the number, and how it is called), classes, constants -/
def qp_fR : Nat → List (Nat × Nat)
  | 0 => [(312, 100), (148, 300), (138, 200), (328, 500), (331, 501), (134, 400), (172, 401), (153, 402), (209, 403), (190, 404), (196, 405), (247, 700), (14, 0), (18, 1), (21, 2), (29, 3), (36, 4), (45, 5), (52, 6), (59, 7), (66, 8), (70, 9), (298, 10), (289, 11), (292, 12), (74, 13)]
  | 1 => [(7, 100), (19, 101), (23, 102)]
  | 2 => [(56, 301), (12, 200), (18, 201), (22, 202), (26, 203)]
  | 3 => [(18, 300), (22, 301), (9, 302), (15, 303)]
  | 4 => [(34, 300), (47, 301), (12, 400), (23, 401), (44, 402), (50, 403), (51, 404), (54, 405), (27, 406), (31, 407)]
  | 5 => [(76, 300), (38, 500), (41, 501), (24, 502), (28, 503), (32, 504), (35, 505), (9, 506), (15, 507), (18, 508), (21, 509)]
  | 6 => [(53, 300), (49, 400), (67, 401), (30, 402), (22, 600), (9, 601), (15, 602), (18, 603), (26, 604), (43, 605)]
  | 7 => [(35, 300), (29, 400), (57, 401), (25, 700), (21, 701), (9, 702), (15, 703), (18, 704)]
  | 8 => [(37, 300), (33, 400), (52, 401), (20, 402), (7, 800), (13, 801), (17, 802)]
  | 9 => [(21, 300), (43, 501), (15, 400), (39, 401), (53, 402), (66, 403), (9, 900), (52, 901)]
  | 10 => [(7, 1000), (13, 1001), (16, 1002), (20, 1003), (23, 1004), (26, 1005), (29, 1006), (32, 1007), (78, 1008), (82, 1009), (240, 1010), (35, 1011), (39, 1012), (42, 1013), (111, 1014), (45, 1015), (48, 1016), (51, 1017), (54, 1018), (57, 1019), (161, 1020), (60, 1021), (63, 1022), (66, 1023), (69, 1024), (72, 1025), (75, 1026)]
  | _ => []
def qp_iR : Nat → List (Nat × Nat)
  | 0 => [(1, 5), (11, 12), (26, 32), (35, 54), (42, 72), (51, 82), (58, 92), (65, 102), (78, 120), (106, 130), (110, 140), (215, 150), (82, 190), (98, 200), (113, 210), (309, 170), (86, 230), (90, 160), (94, 240), (102, 270), (116, 290), (120, 300), (124, 220), (127, 330), (131, 370), (139, 460), (145, 490), (152, 530), (156, 540), (159, 600), (162, 470), (319, 480), (187, 610), (181, 630), (184, 640), (322, 650), (325, 660), (165, 571), (169, 700), (176, 710), (193, 730), (199, 740), (202, 810), (205, 790), (212, 840), (218, 860), (221, 561), (226, 900), (229, 581), (231, 930), (234, 970), (238, 1030), (241, 1050), (244, 1060), (340, 1070), (343, 1080), (346, 1097), (250, 1110), (315, 1121), (254, 1140), (257, 1160), (260, 1180), (263, 1210), (266, 1250), (270, 1290), (274, 1310), (282, 1340), (285, 1350), (295, 1400), (334, 1410), (337, 1420), (305, 1460)]
  | 1 => [(1, 5), (13, 21), (26, 130), (41, 160), (37, 170), (30, 220), (34, 210), (45, 290), (49, 311), (52, 6), (58, 230)]
  | 2 => [(3, 5), (11, 44), (29, 380), (32, 390), (35, 220), (41, 230), (45, 400), (53, 410), (66, 170), (49, 420), (59, 430), (62, 440)]
  | 3 => [(3, 5), (25, 380), (28, 470), (32, 480), (35, 440), (39, 571)]
  | 4 => [(3, 5), (11, 44), (20, 62), (38, 501), (57, 550), (61, 621), (83, 671), (74, 610), (76, 561), (80, 650), (87, 750), (65, 761), (90, 790), (94, 490), (97, 740), (68, 540), (71, 640), (101, 730)]
  | 5 => [(3, 5), (44, 561), (50, 470), (56, 571), (60, 581), (64, 590), (68, 480), (71, 311), (79, 630)]
  | 6 => [(3, 5), (35, 980), (84, 991), (39, 1010), (58, 671), (63, 540), (71, 640), (77, 630), (46, 1020), (80, 761)]
  | 7 => [(3, 5), (40, 1100), (54, 540), (61, 640), (67, 561), (44, 511), (50, 1091), (71, 21)]
  | 8 => [(1, 5), (25, 1221), (29, 1230), (48, 540), (56, 640), (42, 761)]
  | 9 => [(3, 5), (31, 1260), (56, 561), (62, 511), (69, 550), (35, 1270), (27, 1281), (48, 1320)]
  | 10 => [(1, 5), (93, 1491), (87, 1501), (97, 1510), (101, 1530), (105, 1540), (108, 1591), (136, 1620), (130, 1630), (119, 1640), (114, 1650), (123, 1660), (133, 1670), (127, 1681), (139, 1701), (184, 1720), (189, 1730), (178, 1740), (171, 1750), (164, 1761), (167, 1771), (175, 1780), (143, 1791), (181, 1800), (192, 1821), (196, 1830), (199, 1850), (158, 1861), (154, 1871), (151, 1881), (147, 1891), (202, 1910), (209, 1951), (215, 2010), (212, 2020), (218, 2060), (230, 2080), (233, 2090), (237, 2100), (227, 2110), (224, 2121), (244, 2160), (248, 2191), (251, 2200), (261, 2220), (257, 2230), (277, 2260), (281, 2270), (296, 2320), (284, 2330), (288, 2340), (291, 2351)]
  | 11 => [(7, 511), (13, 561), (17, 621), (26, 681), (20, 771), (23, 781), (32, 1001)]
  | 14 => [(9, 2), (13, 110), (18, 180), (23, 250), (27, 260), (32, 280), (37, 320), (41, 340), (45, 350), (49, 360), (53, 450), (57, 520), (61, 690), (65, 720), (69, 800), (73, 820), (77, 830), (81, 850), (85, 870), (89, 880), (93, 890), (97, 910), (101, 920), (105, 940), (109, 950), (113, 960), (118, 1040), (122, 1130), (126, 1150), (130, 1170), (134, 1190), (138, 1200), (142, 1240), (146, 1300), (150, 1330), (154, 1360), (159, 1370), (164, 1380), (168, 1390), (172, 1430), (176, 1440), (180, 1450), (12, 1472), (17, 1480), (22, 1520), (26, 1530), (31, 1550), (36, 1560), (40, 1570), (44, 1580), (48, 1600), (52, 1610), (56, 1690), (60, 1710), (64, 1810), (68, 1840), (72, 1900), (76, 1920), (80, 1930), (84, 1940), (88, 1960), (92, 1970), (96, 1980), (100, 1990), (104, 2000), (108, 2030), (112, 2040), (117, 2050), (121, 2070), (125, 2130), (129, 2140), (133, 2150), (137, 2170), (141, 2180), (145, 2210), (149, 2240), (153, 2250), (158, 2280), (163, 2290), (167, 2300), (171, 2310), (175, 2360), (179, 2370), (183, 2380)]
  | _ => []
def qp_nR : Nat → List (Nat × Nat)
  | 0 => [(7, 1), (24, 2), (33, 4), (40, 6), (49, 7), (56, 8), (63, 9)]
  | 2 => [(9, 3)]
  | 4 => [(9, 3), (18, 5)]
  | 14 => [(7, 0), (10, 10)]
  | _ => []
def qp_kR : Nat → List (Nat × Int32)
  | 0 => [(277, (2147483647 : Int32))]
  | 10 => [(243, (1000000 : Int32)), (247, (-1000000 : Int32))]
  | 12 => [(265, (1431655765 : Int32)), (266, (858993459 : Int32)), (267, (252645135 : Int32))]
  | _ => []
def qp_lR : Nat → List (Nat × Int64)
  | 0 => [(278, (48271 : Int64)), (280, (2147483647 : Int64)), (301, (17 : Int64)), (303, (31 : Int64))]
  | 1 => [(61, (31 : Int64))]
  | 10 => [(85, (5 : Int64)), (91, (3 : Int64)), (117, (57 : Int64)), (187, (6 : Int64)), (205, (20 : Int64)), (207, (2 : Int64)), (222, (9 : Int64)), (255, (12 : Int64)), (271, (2147483646 : Int64)), (273, (48271 : Int64)), (275, (2147483647 : Int64)), (265, (8 : Int64)), (267, (64 : Int64)), (269, (21 : Int64)), (294, (11 : Int64)), (299, (17 : Int64)), (301, (31 : Int64))]
  | _ => []
def qp_gR : Nat → List (Nat × Nat)
  | 2 => [(70, 1)]
  | _ => []
/-- the methods: name, bytes, locals, what comes back, the class whose pool it reads, how many arguments -/
def qp_ms0 : List (MethodName × ByteArray × Nat × Option FieldType × Nat × Nat) := [
  (⟨"QueuePlaces", "<init>", "()V"⟩, prog_1_method_1_code, 1, none, 0, 0),
  (⟨"QueuePlaces$Shelf", "<init>", "(II)V"⟩, prog_11_method_1_code, 4, none, 1, 2),
  (⟨"java/lang/Math", "max", "(II)I"⟩, prog_15_method_65_code, 2, some .int, 13, 2),
  (⟨"QueuePlaces$Reader", "<init>", "(LQueuePlaces$Shelf;)V"⟩, prog_8_method_1_code, 2, none, 2, 1),
  (⟨"QueuePlaces$Crowd", "<init>", "()V"⟩, prog_3_method_1_code, 1, none, 3, 0),
  (⟨"QueuePlaces$Line", "<init>", "()V"⟩, prog_4_method_1_code, 1, none, 4, 0),
  (⟨"QueuePlaces$Serving", "<init>", "(LQueuePlaces$Crowd;)V"⟩, prog_10_method_1_code, 2, none, 5, 1),
  (⟨"QueuePlaces$Search", "<init>", "(LQueuePlaces$Line;)V"⟩, prog_9_method_1_code, 2, none, 6, 1),
  (⟨"QueuePlaces$Orders", "<init>", "(LQueuePlaces$Line;)V"⟩, prog_7_method_1_code, 2, none, 7, 1),
  (⟨"QueuePlaces$Match", "<init>", "(LQueuePlaces$Line;)V"⟩, prog_5_method_1_code, 2, none, 8, 1),
  (⟨"QueuePlaces$Chances", "<init>", "(LQueuePlaces$Line;)V"⟩, prog_2_method_1_code, 2, none, 9, 1),
  (⟨"QueuePlaces", "row", "(II)I"⟩, prog_1_method_2_code, 3, some .int, 0, 2),
  (⟨"QueuePlaces", "anew", "(LQueuePlaces$Shelf;III)I"⟩, prog_1_method_46_code, 5, some .int, 0, 4),
  (⟨"QueuePlaces$Shelf", "isNumber", "(I)Z"⟩, prog_11_method_2_code, 2, some .boolean, 1, 1),
  (⟨"QueuePlaces", "found", "(I)I"⟩, prog_1_method_43_code, 2, some .int, 0, 1),
  (⟨"QueuePlaces$Shelf", "fresh", "(III)V"⟩, prog_11_method_9_code, 5, none, 1, 3),
  (⟨"QueuePlaces$Shelf", "set", "(III)V"⟩, prog_11_method_8_code, 5, none, 1, 3),
  (⟨"QueuePlaces$Shelf", "hasPlace", "(II)Z"⟩, prog_11_method_5_code, 3, some .boolean, 1, 2),
  (⟨"QueuePlaces", "lay", "(III)I"⟩, prog_1_method_3_code, 6, some .int, 0, 3),
  (⟨"QueuePlaces", "refusalOfPlace", "(LQueuePlaces$Shelf;II)I"⟩, prog_1_method_45_code, 5, some .int, 0, 3),
  (⟨"QueuePlaces", "refusalOf", "(LQueuePlaces$Shelf;I)I"⟩, prog_1_method_44_code, 3, some .int, 0, 2),
  (⟨"QueuePlaces$Shelf", "has", "(I)Z"⟩, prog_11_method_4_code, 2, some .boolean, 1, 1),
  (⟨"QueuePlaces$Shelf", "sizeOf", "(I)I"⟩, prog_11_method_3_code, 2, some .int, 1, 1),
  (⟨"QueuePlaces$Shelf", "get", "(II)I"⟩, prog_11_method_7_code, 4, some .int, 1, 2),
  (⟨"QueuePlaces", "tell", "(I)I"⟩, prog_1_method_47_code, 2, some .int, 0, 1),
  (⟨"QueuePlaces", "at", "(II)I"⟩, prog_1_method_4_code, 4, some .int, 0, 2),
  (⟨"QueuePlaces", "tear", "(I)I"⟩, prog_1_method_5_code, 3, some .int, 0, 1),
  (⟨"QueuePlaces$Shelf", "drop", "(I)V"⟩, prog_11_method_10_code, 2, none, 1, 1),
  (⟨"QueuePlaces", "copy", "(IIIII)I"⟩, prog_1_method_6_code, 6, some .int, 0, 5),
  (⟨"QueuePlaces$Shelf", "hasSpan", "(III)Z"⟩, prog_11_method_6_code, 4, some .boolean, 1, 3),
  (⟨"QueuePlaces$Shelf", "bring", "(IIIII)V"⟩, prog_11_method_11_code, 8, none, 1, 5),
  (⟨"java/lang/Math", "min", "(II)I"⟩, prog_15_method_69_code, 2, some .int, 13, 2),
  (⟨"QueuePlaces", "mean", "(I)I"⟩, prog_1_method_7_code, 4, some .int, 0, 1),
  (⟨"QueuePlaces$Shelf", "sum", "(I)J"⟩, prog_11_method_12_code, 5, some .long, 1, 1),
  (⟨"QueuePlaces", "text", "(II)I"⟩, prog_1_method_8_code, 3, some .int, 0, 2),
  (⟨"QueuePlaces", "put", "(III)I"⟩, prog_1_method_9_code, 6, some .int, 0, 3),
  (⟨"QueuePlaces", "fault", "(I)I"⟩, prog_1_method_10_code, 3, some .int, 0, 1),
  (⟨"QueuePlaces$Reader", "read", "(I)I"⟩, prog_8_method_2_code, 2, some .int, 2, 1),
  (⟨"QueuePlaces$Crowd", "clear", "()V"⟩, prog_3_method_3_code, 1, none, 3, 0),
  (⟨"QueuePlaces$Reader", "skipBlanks", "()V"⟩, prog_8_method_3_code, 1, none, 2, 0),
  (⟨"QueuePlaces$Reader", "readLoaves", "()Z"⟩, prog_8_method_4_code, 3, some .boolean, 2, 0),
  (⟨"QueuePlaces$Reader", "figureAt", "(I)I"⟩, prog_8_method_6_code, 4, some .int, 2, 1),
  (⟨"QueuePlaces$Reader", "readPeople", "()I"⟩, prog_8_method_5_code, 4, some .int, 2, 0),
  (⟨"QueuePlaces$Reader", "kindAt", "(I)I"⟩, prog_8_method_7_code, 3, some .int, 2, 1),
  (⟨"QueuePlaces$Crowd", "add", "(II)V"⟩, prog_3_method_4_code, 3, none, 3, 2),
  (⟨"QueuePlaces", "line", "(I)I"⟩, prog_1_method_11_code, 4, some .int, 0, 1),
  (⟨"QueuePlaces$Crowd", "take", "(LQueuePlaces$Crowd;)V"⟩, prog_3_method_5_code, 3, none, 3, 1),
  (⟨"QueuePlaces$Crowd", "kindOf", "(I)I"⟩, prog_3_method_6_code, 2, some .int, 3, 1),
  (⟨"QueuePlaces$Crowd", "patienceOf", "(I)I"⟩, prog_3_method_7_code, 2, some .int, 3, 1),
  (⟨"QueuePlaces$Line", "restart", "()V"⟩, prog_4_method_2_code, 1, none, 4, 0),
  (⟨"QueuePlaces$Order", "first", "(I)I"⟩, prog_6_method_2_code, 3, some .int, 11, 1),
  (⟨"QueuePlaces$Order", "with", "(III)I"⟩, prog_6_method_3_code, 3, some .int, 11, 3),
  (⟨"QueuePlaces", "one", "(II)I"⟩, prog_1_method_12_code, 3, some .int, 0, 2),
  (⟨"QueuePlaces$Crowd", "has", "(I)Z"⟩, prog_3_method_2_code, 2, some .boolean, 3, 1),
  (⟨"QueuePlaces$Line", "serve", "(I)V"⟩, prog_4_method_3_code, 2, none, 4, 1),
  (⟨"QueuePlaces$Serving", "serve", "(III)V"⟩, prog_10_method_2_code, 8, none, 5, 3),
  (⟨"QueuePlaces$Order", "whoAt", "(II)I"⟩, prog_6_method_4_code, 2, some .int, 11, 2),
  (⟨"QueuePlaces$Crowd", "isKindOf", "(II)Z"⟩, prog_3_method_8_code, 2, some .boolean, 3, 2),
  (⟨"QueuePlaces$Crowd", "wantOf", "(IZ)I"⟩, prog_3_method_10_code, 2, some .int, 3, 2),
  (⟨"QueuePlaces$Serving", "serveOne", "(II)V"⟩, prog_10_method_3_code, 5, none, 5, 2)]
def qp_ms1 : List (MethodName × ByteArray × Nat × Option FieldType × Nat × Nat) := [
  (⟨"QueuePlaces", "trait", "(II)I"⟩, prog_1_method_50_code, 3, some .int, 0, 2),
  (⟨"QueuePlaces$Line", "placeOf", "(I)I"⟩, prog_4_method_4_code, 2, some .int, 4, 1),
  (⟨"QueuePlaces$Order", "placeOf", "(III)I"⟩, prog_6_method_5_code, 4, some .int, 11, 3),
  (⟨"QueuePlaces$Serving", "wantOf", "(I)I"⟩, prog_10_method_4_code, 2, some .int, 5, 1),
  (⟨"QueuePlaces$Serving", "gainOf", "(I)I"⟩, prog_10_method_5_code, 2, some .int, 5, 1),
  (⟨"QueuePlaces$Serving", "turnOf", "(I)I"⟩, prog_10_method_6_code, 2, some .int, 5, 1),
  (⟨"QueuePlaces$Line", "metBy", "(I)I"⟩, prog_4_method_7_code, 4, some .int, 4, 1),
  (⟨"QueuePlaces$Order", "haveMet", "(IIII)Z"⟩, prog_6_method_9_code, 4, some .boolean, 11, 4),
  (⟨"java/lang/Math", "abs", "(I)I"⟩, prog_15_method_59_code, 1, some .int, 13, 1),
  (⟨"QueuePlaces", "mark", "(II)I"⟩, prog_1_method_13_code, 3, some .int, 0, 2),
  (⟨"QueuePlaces$Line", "passedBy", "(I)I"⟩, prog_4_method_6_code, 4, some .int, 4, 1),
  (⟨"QueuePlaces$Serving", "leftFor", "(I)I"⟩, prog_10_method_7_code, 2, some .int, 5, 1),
  (⟨"QueuePlaces", "ticket", "(II)I"⟩, prog_1_method_14_code, 4, some .int, 0, 2),
  (⟨"QueuePlaces$Line", "canSell", "(I)Z"⟩, prog_4_method_11_code, 2, some .boolean, 4, 1),
  (⟨"QueuePlaces$Line", "act", "(II)V"⟩, prog_4_method_12_code, 3, none, 4, 2),
  (⟨"QueuePlaces$Line", "sell", "(I)V"⟩, prog_4_method_13_code, 2, none, 4, 1),
  (⟨"QueuePlaces$Order", "by", "(III)I"⟩, prog_6_method_6_code, 7, some .int, 11, 3),
  (⟨"QueuePlaces$Order", "ahead", "(II)I"⟩, prog_6_method_7_code, 2, some .int, 11, 2),
  (⟨"QueuePlaces$Order", "behind", "(II)I"⟩, prog_6_method_8_code, 2, some .int, 11, 2),
  (⟨"QueuePlaces$Line", "without", "(IZ)I"⟩, prog_4_method_14_code, 9, some .int, 4, 2),
  (⟨"QueuePlaces", "back", "(I)I"⟩, prog_1_method_15_code, 3, some .int, 0, 1),
  (⟨"QueuePlaces$Line", "hasTicket", "(I)Z"⟩, prog_4_method_8_code, 2, some .boolean, 4, 1),
  (⟨"QueuePlaces", "loaves", "(I)I"⟩, prog_1_method_16_code, 3, some .int, 0, 1),
  (⟨"QueuePlaces", "undo", "(I)I"⟩, prog_1_method_17_code, 3, some .int, 0, 1),
  (⟨"QueuePlaces$Line", "redo", "(I)V"⟩, prog_4_method_15_code, 3, none, 4, 1),
  (⟨"QueuePlaces", "keep", "(I)I"⟩, prog_1_method_18_code, 3, some .int, 0, 1),
  (⟨"QueuePlaces$Line", "deed", "(I)I"⟩, prog_4_method_10_code, 2, some .int, 4, 1),
  (⟨"QueuePlaces", "on", "(I)I"⟩, prog_1_method_19_code, 5, some .int, 0, 1),
  (⟨"QueuePlaces", "who", "(I)I"⟩, prog_1_method_20_code, 2, some .int, 0, 1),
  (⟨"QueuePlaces", "sold", "(II)I"⟩, prog_1_method_21_code, 3, some .int, 0, 2),
  (⟨"QueuePlaces$Line", "saleOf", "(I)I"⟩, prog_4_method_9_code, 2, some .int, 4, 1),
  (⟨"QueuePlaces", "wants", "(II)I"⟩, prog_1_method_22_code, 3, some .int, 0, 2),
  (⟨"QueuePlaces", "gets", "(II)I"⟩, prog_1_method_23_code, 3, some .int, 0, 2),
  (⟨"QueuePlaces$Line", "gainAt", "(II)I"⟩, prog_4_method_5_code, 3, some .int, 4, 2),
  (⟨"QueuePlaces", "best", "(I)I"⟩, prog_1_method_24_code, 6, some .int, 0, 1),
  (⟨"QueuePlaces", "falls", "(I)I"⟩, prog_1_method_25_code, 2, some .int, 0, 1),
  (⟨"QueuePlaces", "wish", "(IIII)I"⟩, prog_1_method_26_code, 8, some .int, 0, 4),
  (⟨"QueuePlaces$Search", "fewest", "(III)I"⟩, prog_9_method_2_code, 8, some .int, 6, 3),
  (⟨"QueuePlaces$Search", "reach", "(II)V"⟩, prog_9_method_6_code, 4, none, 6, 2),
  (⟨"QueuePlaces$Order", "rank", "(II)I"⟩, prog_6_method_10_code, 6, some .int, 11, 2),
  (⟨"java/lang/Integer", "bitCount", "(I)I"⟩, prog_14_method_49_code, 1, some .int, 12, 1),
  (⟨"QueuePlaces$Search", "fits", "(IIII)Z"⟩, prog_9_method_4_code, 5, some .boolean, 6, 4),
  (⟨"QueuePlaces$Search", "goOn", "(II)V"⟩, prog_9_method_5_code, 6, none, 6, 2),
  (⟨"QueuePlaces$Search", "step", "(II)I"⟩, prog_9_method_3_code, 3, some .int, 6, 2),
  (⟨"QueuePlaces", "lines", "(I)I"⟩, prog_1_method_27_code, 3, some .int, 0, 1),
  (⟨"QueuePlaces", "refusalOfPairs", "(I)I"⟩, prog_1_method_52_code, 6, some .int, 0, 1),
  (⟨"QueuePlaces", "tallyOrders", "(I)V"⟩, prog_1_method_53_code, 4, none, 0, 1),
  (⟨"QueuePlaces$Orders", "forget", "()V"⟩, prog_7_method_2_code, 2, none, 7, 0),
  (⟨"QueuePlaces$Orders", "learn", "(II)V"⟩, prog_7_method_3_code, 3, none, 7, 2),
  (⟨"QueuePlaces$Orders", "extend", "(LQueuePlaces$Orders;III)V"⟩, prog_7_method_4_code, 6, none, 7, 4),
  (⟨"QueuePlaces$Orders", "tallyOne", "(I)V"⟩, prog_7_method_5_code, 5, none, 7, 1),
  (⟨"QueuePlaces", "tellRatio", "(JJ)I"⟩, prog_1_method_48_code, 7, some .int, 0, 2),
  (⟨"QueuePlaces", "greatestDivisor", "(JJ)J"⟩, prog_1_method_49_code, 11, some .long, 0, 2),
  (⟨"QueuePlaces", "can", "(II)I"⟩, prog_1_method_28_code, 4, some .int, 0, 2),
  (⟨"QueuePlaces$Orders", "whoCan", "(I)I"⟩, prog_7_method_6_code, 2, some .int, 7, 1),
  (⟨"QueuePlaces", "next", "(I)I"⟩, prog_1_method_29_code, 5, some .int, 0, 1),
  (⟨"QueuePlaces$Orders", "greatestPart", "(I)I"⟩, prog_7_method_7_code, 4, some .int, 7, 1),
  (⟨"QueuePlaces", "sets", "(I)I"⟩, prog_1_method_30_code, 5, some .int, 0, 1),
  (⟨"QueuePlaces$Serving", "wantOfAll", "(I)I"⟩, prog_10_method_10_code, 4, some .int, 5, 1),
  (⟨"QueuePlaces", "sure", "(I)I"⟩, prog_1_method_31_code, 7, some .int, 0, 1)]
def qp_ms2 : List (MethodName × ByteArray × Nat × Option FieldType × Nat × Nat) := [
  (⟨"QueuePlaces", "duel", "(III)I"⟩, prog_1_method_32_code, 4, some .int, 0, 3),
  (⟨"QueuePlaces$Match", "outcome", "(III)I"⟩, prog_5_method_2_code, 4, some .int, 8, 3),
  (⟨"QueuePlaces$Match", "play", "(LQueuePlaces$Match;II)I"⟩, prog_5_method_3_code, 9, some .int, 8, 3),
  (⟨"QueuePlaces$Match", "leadBy", "(I)I"⟩, prog_5_method_4_code, 2, some .int, 8, 1),
  (⟨"QueuePlaces", "odds", "(II)I"⟩, prog_1_method_33_code, 3, some .int, 0, 2),
  (⟨"QueuePlaces$Chances", "ofContent", "(II)J"⟩, prog_2_method_3_code, 6, some .long, 9, 2),
  (⟨"QueuePlaces$Chances", "serveSet", "(I)V"⟩, prog_2_method_5_code, 5, none, 9, 1),
  (⟨"QueuePlaces$Chances", "weight", "(I)J"⟩, prog_2_method_6_code, 2, some .long, 9, 1),
  (⟨"QueuePlaces$Chances", "power", "(II)J"⟩, prog_2_method_7_code, 5, some .long, 9, 2),
  (⟨"QueuePlaces$Chances", "whole", "()J"⟩, prog_2_method_2_code, 1, some .long, 9, 0),
  (⟨"QueuePlaces", "mid", "(I)I"⟩, prog_1_method_34_code, 2, some .int, 0, 1),
  (⟨"QueuePlaces$Chances", "ofLeft", "(I)J"⟩, prog_2_method_4_code, 5, some .long, 9, 1),
  (⟨"QueuePlaces$Serving", "leftInTheEnd", "()I"⟩, prog_10_method_8_code, 1, some .int, 5, 0),
  (⟨"QueuePlaces", "lots", "(II)I"⟩, prog_1_method_35_code, 6, some .int, 0, 2),
  (⟨"QueuePlaces$Line", "actByLot", "(I)V"⟩, prog_4_method_16_code, 4, none, 4, 1),
  (⟨"QueuePlaces$Serving", "gainOfAll", "()I"⟩, prog_10_method_9_code, 1, some .int, 5, 0),
  (⟨"QueuePlaces", "asked", "()I"⟩, prog_1_method_36_code, 1, some .int, 0, 0),
  (⟨"QueuePlaces", "upper", "()J"⟩, prog_1_method_37_code, 1, some .long, 0, 0),
  (⟨"QueuePlaces", "lower", "()J"⟩, prog_1_method_38_code, 1, some .long, 0, 0),
  (⟨"QueuePlaces", "count", "(I)I"⟩, prog_1_method_39_code, 2, some .int, 0, 1),
  (⟨"QueuePlaces", "amount", "(I)I"⟩, prog_1_method_51_code, 2, some .int, 0, 1),
  (⟨"QueuePlaces$Crowd", "howMany", "(I)I"⟩, prog_3_method_9_code, 4, some .int, 3, 1),
  (⟨"QueuePlaces$Shelf", "there", "()I"⟩, prog_11_method_13_code, 3, some .int, 1, 0),
  (⟨"QueuePlaces", "finding", "()I"⟩, prog_1_method_40_code, 1, some .int, 0, 0),
  (⟨"QueuePlaces", "findings", "(I)I"⟩, prog_1_method_41_code, 2, some .int, 0, 1),
  (⟨"QueuePlaces", "digest", "()J"⟩, prog_1_method_42_code, 5, some .long, 0, 0),
  (⟨"QueuePlaces$Shelf", "digested", "(J)J"⟩, prog_11_method_14_code, 7, some .long, 1, 1),
  (⟨"QueuePlacesModel", "<init>", "()V"⟩, prog_13_method_1_code, 2, none, 10, 0),
  (⟨"QueuePlacesModel", "row", "(II)I"⟩, prog_13_method_8_code, 4, some .int, 10, 2),
  (⟨"QueuePlacesModel", "isRow", "(I)Z"⟩, prog_13_method_6_code, 1, some .boolean, 10, 1),
  (⟨"QueuePlacesModel", "in", "(JJJ)Z"⟩, prog_13_method_3_code, 6, some .boolean, 10, 3),
  (⟨"QueuePlacesModel", "finds", "(I)I"⟩, prog_13_method_4_code, 2, some .int, 10, 1),
  (⟨"QueuePlacesModel", "lay", "(III)I"⟩, prog_13_method_9_code, 5, some .int, 10, 3),
  (⟨"QueuePlacesModel", "at", "(II)I"⟩, prog_13_method_10_code, 3, some .int, 10, 2),
  (⟨"QueuePlacesModel", "asks", "(I)I"⟩, prog_13_method_5_code, 2, some .int, 10, 1),
  (⟨"QueuePlacesModel", "tear", "(I)I"⟩, prog_13_method_11_code, 2, some .int, 10, 1),
  (⟨"QueuePlacesModel", "copy", "(IIIII)I"⟩, prog_13_method_12_code, 7, some .int, 10, 5),
  (⟨"QueuePlacesModel", "mean", "(I)I"⟩, prog_13_method_13_code, 5, some .int, 10, 1),
  (⟨"QueuePlacesModel", "text", "(II)I"⟩, prog_13_method_14_code, 4, some .int, 10, 2),
  (⟨"QueuePlacesModel", "isText", "(I)Z"⟩, prog_13_method_7_code, 1, some .boolean, 10, 1),
  (⟨"QueuePlacesModel", "put", "(III)I"⟩, prog_13_method_15_code, 6, some .int, 10, 3),
  (⟨"QueuePlacesModel", "fault", "(I)I"⟩, prog_13_method_23_code, 2, some .int, 10, 1),
  (⟨"QueuePlacesModel", "faultOf", "(I)I"⟩, prog_13_method_22_code, 3, some .int, 10, 1),
  (⟨"QueuePlacesModel", "takesFirst", "(I)Z"⟩, prog_13_method_19_code, 4, some .boolean, 10, 1),
  (⟨"QueuePlacesModel", "skip", "(I)V"⟩, prog_13_method_17_code, 2, none, 10, 1),
  (⟨"QueuePlacesModel", "here", "(I)I"⟩, prog_13_method_16_code, 2, some .int, 10, 1),
  (⟨"QueuePlacesModel", "takes", "(III)Z"⟩, prog_13_method_18_code, 5, some .boolean, 10, 3),
  (⟨"QueuePlacesModel", "takesOne", "(I)Z"⟩, prog_13_method_21_code, 4, some .boolean, 10, 1),
  (⟨"QueuePlacesModel", "kindBy", "(I)I"⟩, prog_13_method_20_code, 1, some .int, 10, 1),
  (⟨"QueuePlacesModel", "line", "(I)I"⟩, prog_13_method_24_code, 3, some .int, 10, 1),
  (⟨"QueuePlacesModel", "begin", "([I)V"⟩, prog_13_method_25_code, 2, none, 10, 1),
  (⟨"QueuePlacesModel", "one", "(II)I"⟩, prog_13_method_44_code, 3, some .int, 10, 2),
  (⟨"QueuePlacesModel", "isOne", "(I)Z"⟩, prog_13_method_35_code, 2, some .boolean, 10, 1),
  (⟨"QueuePlacesModel", "toldOf", "(II)I"⟩, prog_13_method_43_code, 3, some .int, 10, 2),
  (⟨"QueuePlacesModel", "serveNow", "()V"⟩, prog_13_method_40_code, 1, none, 10, 0),
  (⟨"QueuePlacesModel", "serve", "([III)V"⟩, prog_13_method_39_code, 8, none, 10, 3),
  (⟨"QueuePlacesModel", "isSoldier", "(I)Z"⟩, prog_13_method_37_code, 1, some .boolean, 10, 1),
  (⟨"QueuePlacesModel", "wantsAs", "(IZ)I"⟩, prog_13_method_38_code, 2, some .int, 10, 2),
  (⟨"QueuePlacesModel", "placeOf", "(I)I"⟩, prog_13_method_41_code, 2, some .int, 10, 1),
  (⟨"QueuePlacesModel", "placeIn", "([IIII)I"⟩, prog_13_method_28_code, 5, some .int, 10, 4)]
def qp_ms3 : List (MethodName × ByteArray × Nat × Option FieldType × Nat × Nat) := [
  (⟨"QueuePlacesModel", "metWith", "(I)I"⟩, prog_13_method_42_code, 4, some .int, 10, 1),
  (⟨"QueuePlacesModel", "mark", "(II)I"⟩, prog_13_method_47_code, 3, some .int, 10, 2),
  (⟨"QueuePlacesModel", "isOf", "(II)Z"⟩, prog_13_method_45_code, 2, some .boolean, 10, 2),
  (⟨"QueuePlacesModel", "othersAhead", "(I)I"⟩, prog_13_method_46_code, 4, some .int, 10, 1),
  (⟨"QueuePlacesModel", "ticket", "(II)I"⟩, prog_13_method_48_code, 4, some .int, 10, 2),
  (⟨"QueuePlacesModel", "does", "(I)I"⟩, prog_13_method_34_code, 2, some .int, 10, 1),
  (⟨"QueuePlacesModel", "goDeed", "([II)I"⟩, prog_13_method_33_code, 2, some .int, 10, 2),
  (⟨"QueuePlacesModel", "goBack", "([II)I"⟩, prog_13_method_32_code, 7, some .int, 10, 2),
  (⟨"QueuePlacesModel", "layStands", "([I)V"⟩, prog_13_method_30_code, 2, none, 10, 1),
  (⟨"QueuePlacesModel", "goTo", "([IIIII)V"⟩, prog_13_method_29_code, 6, none, 10, 5),
  (⟨"QueuePlacesModel", "back", "(I)I"⟩, prog_13_method_49_code, 2, some .int, 10, 1),
  (⟨"QueuePlacesModel", "isTicket", "(I)Z"⟩, prog_13_method_36_code, 2, some .boolean, 10, 1),
  (⟨"QueuePlacesModel", "loaves", "(I)I"⟩, prog_13_method_50_code, 4, some .int, 10, 1),
  (⟨"QueuePlacesModel", "undo", "(I)I"⟩, prog_13_method_51_code, 5, some .int, 10, 1),
  (⟨"QueuePlacesModel", "keep", "(I)I"⟩, prog_13_method_53_code, 3, some .int, 10, 1),
  (⟨"QueuePlacesModel", "isShelf", "(I)Z"⟩, prog_13_method_52_code, 1, some .boolean, 10, 1),
  (⟨"QueuePlacesModel", "on", "(I)I"⟩, prog_13_method_54_code, 3, some .int, 10, 1),
  (⟨"QueuePlacesModel", "who", "(I)I"⟩, prog_13_method_55_code, 2, some .int, 10, 1),
  (⟨"QueuePlacesModel", "sold", "(II)I"⟩, prog_13_method_56_code, 3, some .int, 10, 2),
  (⟨"QueuePlacesModel", "wants", "(II)I"⟩, prog_13_method_57_code, 3, some .int, 10, 2),
  (⟨"QueuePlacesModel", "gets", "(II)I"⟩, prog_13_method_59_code, 3, some .int, 10, 2),
  (⟨"QueuePlacesModel", "getsAt", "(II)I"⟩, prog_13_method_58_code, 3, some .int, 10, 2),
  (⟨"QueuePlacesModel", "layHand", "()V"⟩, prog_13_method_31_code, 2, none, 10, 0),
  (⟨"QueuePlacesModel", "best", "(I)I"⟩, prog_13_method_60_code, 6, some .int, 10, 1),
  (⟨"QueuePlacesModel", "falls", "(I)I"⟩, prog_13_method_61_code, 2, some .int, 10, 1),
  (⟨"QueuePlacesModel", "wish", "(IIII)I"⟩, prog_13_method_63_code, 9, some .int, 10, 4),
  (⟨"QueuePlacesModel", "goes", "(IIIII)Z"⟩, prog_13_method_62_code, 12, some .boolean, 10, 5),
  (⟨"QueuePlacesModel", "lines", "(I)I"⟩, prog_13_method_68_code, 5, some .int, 10, 1),
  (⟨"QueuePlacesModel", "refusesPairs", "(I)I"⟩, prog_13_method_64_code, 3, some .int, 10, 1),
  (⟨"QueuePlacesModel", "manyOrders", "()I"⟩, prog_13_method_66_code, 3, some .int, 10, 0),
  (⟨"QueuePlacesModel", "fits", "(II)Z"⟩, prog_13_method_67_code, 5, some .boolean, 10, 2),
  (⟨"QueuePlacesModel", "layOrder", "(I)V"⟩, prog_13_method_65_code, 9, none, 10, 1),
  (⟨"QueuePlacesModel", "has", "(II)Z"⟩, prog_13_method_27_code, 2, some .boolean, 10, 2),
  (⟨"QueuePlacesModel", "can", "(II)I"⟩, prog_13_method_69_code, 6, some .int, 10, 2),
  (⟨"QueuePlacesModel", "next", "(I)I"⟩, prog_13_method_70_code, 9, some .int, 10, 1),
  (⟨"QueuePlacesModel", "sets", "(I)I"⟩, prog_13_method_72_code, 5, some .int, 10, 1),
  (⟨"QueuePlacesModel", "wantedBy", "(I)I"⟩, prog_13_method_71_code, 5, some .int, 10, 1),
  (⟨"QueuePlacesModel", "sure", "(I)I"⟩, prog_13_method_73_code, 7, some .int, 10, 1),
  (⟨"QueuePlacesModel", "duel", "(III)I"⟩, prog_13_method_76_code, 10, some .int, 10, 3),
  (⟨"QueuePlacesModel", "startOf", "(I)I"⟩, prog_13_method_75_code, 1, some .int, 10, 1),
  (⟨"QueuePlacesModel", "goChoices", "(III)I"⟩, prog_13_method_74_code, 5, some .int, 10, 3),
  (⟨"QueuePlacesModel", "odds", "(II)I"⟩, prog_13_method_79_code, 3, some .int, 10, 2),
  (⟨"QueuePlacesModel", "goOdds", "(II)V"⟩, prog_13_method_78_code, 13, none, 10, 2),
  (⟨"QueuePlacesModel", "fraction", "(JJ)V"⟩, prog_13_method_77_code, 11, none, 10, 2),
  (⟨"QueuePlacesModel", "mid", "(I)I"⟩, prog_13_method_80_code, 2, some .int, 10, 1),
  (⟨"QueuePlacesModel", "lots", "(II)I"⟩, prog_13_method_83_code, 7, some .int, 10, 2),
  (⟨"QueuePlacesModel", "deedBy", "(J)I"⟩, prog_13_method_81_code, 8, some .int, 10, 1),
  (⟨"QueuePlacesModel", "gotAll", "()I"⟩, prog_13_method_82_code, 3, some .int, 10, 0),
  (⟨"QueuePlacesModel", "asked", "()I"⟩, prog_13_method_84_code, 1, some .int, 10, 0),
  (⟨"QueuePlacesModel", "upper", "()J"⟩, prog_13_method_85_code, 1, some .long, 10, 0),
  (⟨"QueuePlacesModel", "lower", "()J"⟩, prog_13_method_86_code, 1, some .long, 10, 0),
  (⟨"QueuePlacesModel", "count", "(I)I"⟩, prog_13_method_91_code, 2, some .int, 10, 1),
  (⟨"QueuePlacesModel", "counted", "(I)I"⟩, prog_13_method_90_code, 2, some .int, 10, 1),
  (⟨"QueuePlacesModel", "whoIs", "(Z)I"⟩, prog_13_method_89_code, 5, some .int, 10, 1),
  (⟨"QueuePlacesModel", "manyOf", "(I)I"⟩, prog_13_method_88_code, 4, some .int, 10, 1),
  (⟨"QueuePlacesModel", "manyThere", "([II)I"⟩, prog_13_method_87_code, 4, some .int, 10, 2),
  (⟨"QueuePlacesModel", "finding", "()I"⟩, prog_13_method_92_code, 1, some .int, 10, 0),
  (⟨"QueuePlacesModel", "findings", "(I)I"⟩, prog_13_method_93_code, 2, some .int, 10, 1),
  (⟨"QueuePlacesModel", "digest", "()J"⟩, prog_13_method_94_code, 5, some .long, 10, 0)]
def qp_ms : List (MethodName × ByteArray × Nat × Option FieldType × Nat × Nat) := qp_ms0 ++ (qp_ms1 ++ (qp_ms2 ++ (qp_ms3)))
def qp_m0 : MethodName × ByteArray × Nat × Option FieldType × Nat × Nat := (⟨"", "", ""⟩, ⟨#[]⟩, 0, none, 20, 0)
def qp_m (mi : Nat) : MethodName × ByteArray × Nat × Option FieldType × Nat × Nat := qp_ms.getD mi qp_m0
def qp_y (mi : Nat) : MethodName := (qp_m mi).1
def qp_b (mi : Nat) : ByteArray := (qp_m mi).2.1
def qp_mL (mi : Nat) : Nat := (qp_m mi).2.2.1
def qp_rt (mi : Nat) : Option FieldType := (qp_m mi).2.2.2.1
def qp_o (mi : Nat) : Nat := (qp_m mi).2.2.2.2.1
def qp_na (mi : Nat) : Nat := (qp_m mi).2.2.2.2.2
/-- fetch -/
def qp_ft8 (K : List (List (Nat × Instr × Int32 × Nat))) (pc : Nat) : Option (Instr × Int32 × Nat) := match qp_nth K (pc / 16) with
  | some b => qp_lk b pc
  | none => none

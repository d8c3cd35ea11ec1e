/-! THE PROGRAM AS TABLES (printed by a program of mine out of the bytecode): classes, fields, methods, code -/
def qp_RL : List String := ["QueuePlaces", "QueuePlaces$Shelf", "QueuePlaces$Reader", "QueuePlaces$Crowd", "QueuePlaces$Line", "QueuePlaces$Serving", "QueuePlaces$Search", "QueuePlaces$Orders", "QueuePlaces$Match", "QueuePlaces$Chances", "QueuePlaces$Order", "java/lang/Integer", "java/lang/Math", "QueuePlacesLaw"]
def qp_R (o : Nat) : String := qp_RL.getD o ""
def qp_FL : List (List (String × String × Bool)) := [
  [("rows", "LQueuePlaces$Shelf;", true), ("texts", "LQueuePlaces$Shelf;", true), ("kept", "LQueuePlaces$Shelf;", true), ("reader", "LQueuePlaces$Reader;", true), ("line", "LQueuePlaces$Line;", true), ("search", "LQueuePlaces$Search;", true), ("orders", "LQueuePlaces$Orders;", true), ("match", "LQueuePlaces$Match;", true), ("chances", "LQueuePlaces$Chances;", true), ("findingCounts", "[I", true), ("latestFinding", "I", false), ("told", "I", false), ("above", "J", false), ("below", "J", false)],
  [("most", "I", true), ("sizes", "[I", true), ("places", "[I", true)],
  [("crowd", "LQueuePlaces$Crowd;", true), ("texts", "LQueuePlaces$Shelf;", true), ("text", "I", false), ("place", "I", false)],
  [("size", "I", false), ("loaves", "I", false), ("kinds", "[I", true), ("patience", "[I", true)],
  [("crowd", "LQueuePlaces$Crowd;", true), ("serving", "LQueuePlaces$Serving;", true), ("order", "I", false), ("loaves", "I", false), ("tickets", "I", false), ("done", "I", false), ("sales", "[I", true), ("deeds", "[I", true)],
  [("turnedAway", "I", false), ("content", "I", false), ("crowd", "LQueuePlaces$Crowd;", true), ("loaves", "I", false), ("left", "I", false), ("served", "I", false), ("wanted", "[I", true), ("gained", "[I", true), ("turns", "[I", true), ("leftThen", "[I", true)],
  [("line", "LQueuePlaces$Line;", true), ("orders", "[I", true), ("paths", "[I", true), ("seen", "[Z", true), ("reached", "I", false), ("path", "I", false)],
  [("total", "I", false), ("line", "LQueuePlaces$Line;", true), ("known", "[I", true), ("possible", "[I", true), ("parts", "[I", true)],
  [("line", "LQueuePlaces$Line;", true), ("first", "I", false), ("second", "I", false)],
  [("line", "LQueuePlaces$Line;", true), ("size", "I", false)]]
def qp_T (ci : Nat) : u_T := fun k => (qp_R ci, (qp_FL.getD ci []).getD k ("", "", false))
def qp_NL : List Nat := [14, 3, 4, 4, 8, 10, 6, 5, 3, 2]
def qp_N (ci : Nat) : Nat := qp_NL.getD ci 0
def qp_tyL : List (List FieldType) := [
  [.object "QueuePlaces$Shelf", .object "QueuePlaces$Shelf", .object "QueuePlaces$Shelf", .object "QueuePlaces$Reader", .object "QueuePlaces$Line", .object "QueuePlaces$Search", .object "QueuePlaces$Orders", .object "QueuePlaces$Match", .object "QueuePlaces$Chances", .array .int, .int, .int, .long, .long],
  [.int, .array .int, .array .int],
  [.object "QueuePlaces$Crowd", .object "QueuePlaces$Shelf", .int, .int],
  [.int, .int, .array .int, .array .int],
  [.object "QueuePlaces$Crowd", .object "QueuePlaces$Serving", .int, .int, .int, .int, .array .int, .array .int],
  [.int, .int, .object "QueuePlaces$Crowd", .int, .int, .int, .array .int, .array .int, .array .int, .array .int],
  [.object "QueuePlaces$Line", .array .int, .array .int, .array .boolean, .int, .int],
  [.int, .object "QueuePlaces$Line", .array .int, .array .int, .array .int],
  [.object "QueuePlaces$Line", .int, .int],
  [.object "QueuePlaces$Line", .int]]
def qp_ty (ci : Nat) : Nat → FieldType := fun k => (qp_tyL.getD ci []).getD k .int
def qp_nth {α : Type} : List α → Nat → Option α
  | [], _ => none
  | v :: _, 0 => some v
  | _ :: t, n + 1 => qp_nth t n
def qp_lk {α : Type} : List (Nat × α) → Nat → Option α
  | [], _ => none
  | q :: t, i => bif Nat.beq q.1 i then some q.2 else qp_lk t i
/-- a field's kind: 0 int, 1 long, 2 reference; and whether it is final -/
def qp_ftL : Nat → List (Nat × Bool)
  | 0 => [(2, true), (2, true), (2, true), (2, true), (2, true), (2, true), (2, true), (2, true), (2, true), (2, true), (0, false), (0, false), (1, false), (1, false)]
  | 1 => [(0, true), (2, true), (2, true)]
  | 2 => [(2, true), (2, true), (0, false), (0, false)]
  | 3 => [(0, false), (0, false), (2, true), (2, true)]
  | 4 => [(2, true), (2, true), (0, false), (0, false), (0, false), (0, false), (2, true), (2, true)]
  | 5 => [(0, false), (0, false), (2, true), (0, false), (0, false), (0, false), (2, true), (2, true), (2, true), (2, true)]
  | 6 => [(2, true), (2, true), (2, true), (2, true), (0, false), (0, false)]
  | 7 => [(0, false), (2, true), (2, true), (2, true), (2, true)]
  | 8 => [(2, true), (0, false), (0, false)]
  | 9 => [(2, true), (0, false)]
  | _ => []
def qp_ft (ci k : Nat) : Nat := match qp_nth (qp_ftL ci) k with
  | some x => x.1
  | none => 0
def qp_fin (ci k : Nat) : Bool := match qp_nth (qp_ftL ci) k with
  | some x => x.2
  | none => false
/-- what an entry of a class's constant pool names: fields (100 times the class, and the place), methods (10 times the number, and how it is called), classes, constants -/
def qp_fR : Nat → List (Nat × Nat)
  | 0 => [(312, 100), (148, 300), (138, 200), (328, 500), (331, 501), (134, 400), (172, 401), (153, 402), (209, 403), (190, 404), (196, 405), (247, 700), (14, 0), (18, 1), (21, 2), (29, 3), (36, 4), (45, 5), (52, 6), (59, 7), (66, 8), (70, 9), (298, 10), (289, 11), (292, 12), (74, 13)]
  | 1 => [(7, 100), (19, 101), (23, 102)]
  | 2 => [(56, 301), (12, 200), (18, 201), (22, 202), (26, 203)]
  | 3 => [(18, 300), (22, 301), (9, 302), (15, 303)]
  | 4 => [(34, 300), (47, 301), (12, 400), (23, 401), (44, 402), (50, 403), (51, 404), (54, 405), (27, 406), (31, 407)]
  | 5 => [(76, 300), (38, 500), (41, 501), (24, 502), (28, 503), (32, 504), (35, 505), (9, 506), (15, 507), (18, 508), (21, 509)]
  | 6 => [(53, 300), (49, 400), (67, 401), (30, 402), (22, 600), (9, 601), (15, 602), (18, 603), (26, 604), (43, 605)]
  | 7 => [(35, 300), (29, 400), (57, 401), (25, 700), (21, 701), (9, 702), (15, 703), (18, 704)]
  | 8 => [(37, 300), (33, 400), (52, 401), (20, 402), (7, 800), (13, 801), (17, 802)]
  | 9 => [(21, 300), (43, 501), (15, 400), (39, 401), (53, 402), (66, 403), (9, 900), (52, 901)]
  | _ => []
def qp_iR : Nat → List (Nat × Nat)
  | 0 => [(1, 5), (11, 12), (26, 32), (35, 54), (42, 72), (51, 82), (58, 92), (65, 102), (78, 120), (106, 130), (110, 140), (215, 150), (82, 190), (98, 200), (113, 210), (309, 170), (86, 230), (90, 160), (94, 240), (131, 270), (139, 350), (145, 380), (102, 410), (152, 430), (193, 440), (199, 480), (202, 550), (205, 530), (212, 580), (218, 600), (124, 220), (221, 471), (162, 360), (229, 641), (231, 660), (234, 760), (238, 850), (241, 870), (244, 880), (340, 890), (343, 900), (346, 917), (250, 930), (315, 941), (254, 960), (257, 980), (156, 670), (260, 1000), (263, 1030), (266, 1070), (270, 1110), (274, 1130), (282, 1160), (285, 1170), (295, 1220), (334, 1230), (337, 1240), (159, 1260), (319, 370), (187, 450), (181, 830), (184, 720), (322, 1270), (325, 1280), (226, 1290), (305, 1300)]
  | 1 => [(1, 5), (13, 21), (26, 130), (41, 160), (37, 170), (30, 220), (34, 210), (58, 230)]
  | 2 => [(3, 5), (11, 44), (29, 280), (32, 290), (35, 220), (41, 230), (45, 300), (53, 310), (66, 170), (49, 320), (59, 330), (62, 340)]
  | 3 => [(3, 5), (25, 280), (28, 360), (32, 370), (35, 340), (39, 691)]
  | 4 => [(3, 5), (11, 44), (20, 62), (38, 391), (74, 450), (61, 461), (87, 490), (65, 501), (90, 530), (94, 380), (97, 480), (68, 670), (57, 680), (71, 720), (101, 440), (83, 811)]
  | 5 => [(3, 5), (44, 471), (50, 360), (56, 691), (60, 641), (64, 700), (68, 370), (71, 711), (79, 830)]
  | 6 => [(3, 5), (35, 770), (84, 781), (39, 800), (58, 811), (63, 670), (71, 720), (77, 830), (46, 840), (80, 501)]
  | 7 => [(3, 5), (40, 920), (54, 670), (61, 720), (67, 471), (44, 401), (50, 911), (71, 21)]
  | 8 => [(1, 5), (25, 1041), (29, 1050), (48, 670), (56, 720), (42, 501)]
  | 9 => [(3, 5), (31, 1080), (56, 471), (62, 401), (69, 680), (35, 1090), (27, 1101), (48, 1140)]
  | 10 => [(7, 401), (13, 471), (17, 461), (20, 511), (23, 521), (32, 791), (26, 821)]
  | 13 => [(42, 2), (99, 110), (102, 180), (96, 250), (32, 260), (77, 420), (86, 540), (137, 560), (80, 570), (58, 590), (89, 610), (61, 620), (68, 630), (74, 650), (71, 730), (83, 740), (92, 750), (104, 860), (119, 950), (116, 970), (122, 990), (125, 1010), (128, 1020), (131, 1060), (134, 1120), (52, 1150), (38, 1180), (107, 1190), (113, 1200), (55, 1210), (140, 1250), (9, 1311), (15, 1321), (43, 1331), (47, 1341), (19, 1350), (24, 1360), (28, 1371), (143, 1381), (64, 1391), (35, 1400)]
  | _ => []
def qp_nR : Nat → List (Nat × Nat)
  | 0 => [(7, 1), (24, 2), (33, 4), (40, 6), (49, 7), (56, 8), (63, 9)]
  | 2 => [(9, 3)]
  | 4 => [(9, 3), (18, 5)]
  | 13 => [(20, 0)]
  | _ => []
def qp_kR : Nat → List (Nat × Int32)
  | 0 => [(277, (2147483647 : Int32))]
  | 11 => [(265, (1431655765 : Int32)), (266, (858993459 : Int32)), (267, (252645135 : Int32))]
  | 13 => [(7, (-1676768693 : Int32)), (8, (2147483647 : Int32)), (51, (2000000 : Int32))]
  | _ => []
def qp_lR : Nat → List (Nat × Int64)
  | 0 => [(278, (48271 : Int64)), (280, (2147483647 : Int64)), (301, (17 : Int64)), (303, (31 : Int64))]
  | 1 => [(61, (31 : Int64))]
  | 13 => [(111, (720 : Int64))]
  | _ => []
def qp_gR : Nat → List (Nat × Nat)
  | 2 => [(70, 1)]
  | _ => []
/-- the methods: name, bytes, locals, what comes back, the class whose pool it reads, how many arguments -/
def qp_ms0 : List (MethodName × ByteArray × Nat × Option FieldType × Nat × Nat) := [
  (⟨"QueuePlaces", "<init>", "()V"⟩, prog_1_method_1_code, 1, none, 0, 0),
  (⟨"QueuePlaces$Shelf", "<init>", "(II)V"⟩, prog_11_method_1_code, 4, none, 1, 2),
  (⟨"java/lang/Math", "max", "(II)I"⟩, prog_15_method_65_code, 2, some .int, 12, 2),
  (⟨"QueuePlaces$Reader", "<init>", "(LQueuePlaces$Shelf;)V"⟩, prog_8_method_1_code, 2, none, 2, 1),
  (⟨"QueuePlaces$Crowd", "<init>", "()V"⟩, prog_3_method_1_code, 1, none, 3, 0),
  (⟨"QueuePlaces$Line", "<init>", "()V"⟩, prog_4_method_1_code, 1, none, 4, 0),
  (⟨"QueuePlaces$Serving", "<init>", "(LQueuePlaces$Crowd;)V"⟩, prog_10_method_1_code, 2, none, 5, 1),
  (⟨"QueuePlaces$Search", "<init>", "(LQueuePlaces$Line;)V"⟩, prog_9_method_1_code, 2, none, 6, 1),
  (⟨"QueuePlaces$Orders", "<init>", "(LQueuePlaces$Line;)V"⟩, prog_7_method_1_code, 2, none, 7, 1),
  (⟨"QueuePlaces$Match", "<init>", "(LQueuePlaces$Line;)V"⟩, prog_5_method_1_code, 2, none, 8, 1),
  (⟨"QueuePlaces$Chances", "<init>", "(LQueuePlaces$Line;)V"⟩, prog_2_method_1_code, 2, none, 9, 1),
  (⟨"QueuePlaces", "row", "(II)I"⟩, prog_1_method_2_code, 3, some .int, 0, 2),
  (⟨"QueuePlaces", "anew", "(LQueuePlaces$Shelf;III)I"⟩, prog_1_method_46_code, 5, some .int, 0, 4),
  (⟨"QueuePlaces$Shelf", "isNumber", "(I)Z"⟩, prog_11_method_2_code, 2, some .boolean, 1, 1),
  (⟨"QueuePlaces", "found", "(I)I"⟩, prog_1_method_43_code, 2, some .int, 0, 1),
  (⟨"QueuePlaces$Shelf", "fresh", "(III)V"⟩, prog_11_method_9_code, 5, none, 1, 3),
  (⟨"QueuePlaces$Shelf", "set", "(III)V"⟩, prog_11_method_8_code, 5, none, 1, 3),
  (⟨"QueuePlaces$Shelf", "hasPlace", "(II)Z"⟩, prog_11_method_5_code, 3, some .boolean, 1, 2),
  (⟨"QueuePlaces", "lay", "(III)I"⟩, prog_1_method_3_code, 6, some .int, 0, 3),
  (⟨"QueuePlaces", "refusalOfPlace", "(LQueuePlaces$Shelf;II)I"⟩, prog_1_method_45_code, 5, some .int, 0, 3),
  (⟨"QueuePlaces", "refusalOf", "(LQueuePlaces$Shelf;I)I"⟩, prog_1_method_44_code, 3, some .int, 0, 2),
  (⟨"QueuePlaces$Shelf", "has", "(I)Z"⟩, prog_11_method_4_code, 2, some .boolean, 1, 1),
  (⟨"QueuePlaces$Shelf", "sizeOf", "(I)I"⟩, prog_11_method_3_code, 2, some .int, 1, 1),
  (⟨"QueuePlaces$Shelf", "get", "(II)I"⟩, prog_11_method_7_code, 4, some .int, 1, 2),
  (⟨"QueuePlaces", "tell", "(I)I"⟩, prog_1_method_47_code, 2, some .int, 0, 1),
  (⟨"QueuePlaces", "at", "(II)I"⟩, prog_1_method_4_code, 4, some .int, 0, 2),
  (⟨"QueuePlaces", "line", "(I)I"⟩, prog_1_method_11_code, 4, some .int, 0, 1),
  (⟨"QueuePlaces$Reader", "read", "(I)I"⟩, prog_8_method_2_code, 2, some .int, 2, 1),
  (⟨"QueuePlaces$Crowd", "clear", "()V"⟩, prog_3_method_3_code, 1, none, 3, 0),
  (⟨"QueuePlaces$Reader", "skipBlanks", "()V"⟩, prog_8_method_3_code, 1, none, 2, 0),
  (⟨"QueuePlaces$Reader", "readLoaves", "()Z"⟩, prog_8_method_4_code, 3, some .boolean, 2, 0),
  (⟨"QueuePlaces$Reader", "figureAt", "(I)I"⟩, prog_8_method_6_code, 4, some .int, 2, 1),
  (⟨"QueuePlaces$Reader", "readPeople", "()I"⟩, prog_8_method_5_code, 4, some .int, 2, 0),
  (⟨"QueuePlaces$Reader", "kindAt", "(I)I"⟩, prog_8_method_7_code, 3, some .int, 2, 1),
  (⟨"QueuePlaces$Crowd", "add", "(II)V"⟩, prog_3_method_4_code, 3, none, 3, 2),
  (⟨"QueuePlaces$Crowd", "take", "(LQueuePlaces$Crowd;)V"⟩, prog_3_method_5_code, 3, none, 3, 1),
  (⟨"QueuePlaces$Crowd", "kindOf", "(I)I"⟩, prog_3_method_6_code, 2, some .int, 3, 1),
  (⟨"QueuePlaces$Crowd", "patienceOf", "(I)I"⟩, prog_3_method_7_code, 2, some .int, 3, 1),
  (⟨"QueuePlaces$Line", "restart", "()V"⟩, prog_4_method_2_code, 1, none, 4, 0),
  (⟨"QueuePlaces$Order", "first", "(I)I"⟩, prog_6_method_2_code, 3, some .int, 10, 1),
  (⟨"QueuePlaces$Order", "with", "(III)I"⟩, prog_6_method_3_code, 3, some .int, 10, 3),
  (⟨"QueuePlaces$Shelf", "drop", "(I)V"⟩, prog_11_method_10_code, 2, none, 1, 1),
  (⟨"QueuePlaces", "ticket", "(II)I"⟩, prog_1_method_14_code, 4, some .int, 0, 2),
  (⟨"QueuePlaces$Crowd", "has", "(I)Z"⟩, prog_3_method_2_code, 2, some .boolean, 3, 1),
  (⟨"QueuePlaces$Line", "canSell", "(I)Z"⟩, prog_4_method_11_code, 2, some .boolean, 4, 1),
  (⟨"QueuePlaces$Line", "placeOf", "(I)I"⟩, prog_4_method_4_code, 2, some .int, 4, 1),
  (⟨"QueuePlaces$Order", "placeOf", "(III)I"⟩, prog_6_method_5_code, 4, some .int, 10, 3),
  (⟨"QueuePlaces$Order", "whoAt", "(II)I"⟩, prog_6_method_4_code, 2, some .int, 10, 2),
  (⟨"QueuePlaces$Line", "act", "(II)V"⟩, prog_4_method_12_code, 3, none, 4, 2),
  (⟨"QueuePlaces$Line", "sell", "(I)V"⟩, prog_4_method_13_code, 2, none, 4, 1),
  (⟨"QueuePlaces$Order", "by", "(III)I"⟩, prog_6_method_6_code, 7, some .int, 10, 3),
  (⟨"QueuePlaces$Order", "ahead", "(II)I"⟩, prog_6_method_7_code, 2, some .int, 10, 2),
  (⟨"QueuePlaces$Order", "behind", "(II)I"⟩, prog_6_method_8_code, 2, some .int, 10, 2),
  (⟨"QueuePlaces$Line", "without", "(IZ)I"⟩, prog_4_method_14_code, 9, some .int, 4, 2),
  (⟨"QueuePlaces", "back", "(I)I"⟩, prog_1_method_15_code, 3, some .int, 0, 1),
  (⟨"QueuePlaces$Line", "hasTicket", "(I)Z"⟩, prog_4_method_8_code, 2, some .boolean, 4, 1),
  (⟨"QueuePlaces", "loaves", "(I)I"⟩, prog_1_method_16_code, 3, some .int, 0, 1),
  (⟨"QueuePlaces", "undo", "(I)I"⟩, prog_1_method_17_code, 3, some .int, 0, 1),
  (⟨"QueuePlaces$Line", "redo", "(I)V"⟩, prog_4_method_15_code, 3, none, 4, 1),
  (⟨"QueuePlaces", "keep", "(I)I"⟩, prog_1_method_18_code, 3, some .int, 0, 1)]
def qp_ms1 : List (MethodName × ByteArray × Nat × Option FieldType × Nat × Nat) := [
  (⟨"QueuePlaces$Line", "deed", "(I)I"⟩, prog_4_method_10_code, 2, some .int, 4, 1),
  (⟨"QueuePlaces", "on", "(I)I"⟩, prog_1_method_19_code, 5, some .int, 0, 1),
  (⟨"QueuePlaces", "who", "(I)I"⟩, prog_1_method_20_code, 2, some .int, 0, 1),
  (⟨"QueuePlaces", "wants", "(II)I"⟩, prog_1_method_22_code, 3, some .int, 0, 2),
  (⟨"QueuePlaces$Crowd", "wantOf", "(IZ)I"⟩, prog_3_method_10_code, 2, some .int, 3, 2),
  (⟨"QueuePlaces", "gets", "(II)I"⟩, prog_1_method_23_code, 3, some .int, 0, 2),
  (⟨"QueuePlaces$Line", "gainAt", "(II)I"⟩, prog_4_method_5_code, 3, some .int, 4, 2),
  (⟨"QueuePlaces$Line", "serve", "(I)V"⟩, prog_4_method_3_code, 2, none, 4, 1),
  (⟨"QueuePlaces$Serving", "serve", "(III)V"⟩, prog_10_method_2_code, 8, none, 5, 3),
  (⟨"QueuePlaces$Crowd", "isKindOf", "(II)Z"⟩, prog_3_method_8_code, 2, some .boolean, 3, 2),
  (⟨"QueuePlaces$Serving", "serveOne", "(II)V"⟩, prog_10_method_3_code, 5, none, 5, 2),
  (⟨"java/lang/Math", "min", "(II)I"⟩, prog_15_method_69_code, 2, some .int, 12, 2),
  (⟨"QueuePlaces$Serving", "gainOf", "(I)I"⟩, prog_10_method_5_code, 2, some .int, 5, 1),
  (⟨"QueuePlaces", "best", "(I)I"⟩, prog_1_method_24_code, 6, some .int, 0, 1),
  (⟨"QueuePlaces", "falls", "(I)I"⟩, prog_1_method_25_code, 2, some .int, 0, 1),
  (⟨"QueuePlaces", "wish", "(IIII)I"⟩, prog_1_method_26_code, 8, some .int, 0, 4),
  (⟨"QueuePlaces$Search", "fewest", "(III)I"⟩, prog_9_method_2_code, 8, some .int, 6, 3),
  (⟨"QueuePlaces$Search", "reach", "(II)V"⟩, prog_9_method_6_code, 4, none, 6, 2),
  (⟨"QueuePlaces$Order", "rank", "(II)I"⟩, prog_6_method_10_code, 6, some .int, 10, 2),
  (⟨"java/lang/Integer", "bitCount", "(I)I"⟩, prog_14_method_49_code, 1, some .int, 11, 1),
  (⟨"QueuePlaces$Search", "fits", "(IIII)Z"⟩, prog_9_method_4_code, 5, some .boolean, 6, 4),
  (⟨"QueuePlaces$Order", "haveMet", "(IIII)Z"⟩, prog_6_method_9_code, 4, some .boolean, 10, 4),
  (⟨"java/lang/Math", "abs", "(I)I"⟩, prog_15_method_59_code, 1, some .int, 12, 1),
  (⟨"QueuePlaces$Serving", "wantOf", "(I)I"⟩, prog_10_method_4_code, 2, some .int, 5, 1),
  (⟨"QueuePlaces$Search", "goOn", "(II)V"⟩, prog_9_method_5_code, 6, none, 6, 2),
  (⟨"QueuePlaces$Search", "step", "(II)I"⟩, prog_9_method_3_code, 3, some .int, 6, 2),
  (⟨"QueuePlaces", "lines", "(I)I"⟩, prog_1_method_27_code, 3, some .int, 0, 1),
  (⟨"QueuePlaces", "refusalOfPairs", "(I)I"⟩, prog_1_method_52_code, 6, some .int, 0, 1),
  (⟨"QueuePlaces", "tallyOrders", "(I)V"⟩, prog_1_method_53_code, 4, none, 0, 1),
  (⟨"QueuePlaces$Orders", "forget", "()V"⟩, prog_7_method_2_code, 2, none, 7, 0),
  (⟨"QueuePlaces$Orders", "learn", "(II)V"⟩, prog_7_method_3_code, 3, none, 7, 2),
  (⟨"QueuePlaces$Orders", "extend", "(LQueuePlaces$Orders;III)V"⟩, prog_7_method_4_code, 6, none, 7, 4),
  (⟨"QueuePlaces$Orders", "tallyOne", "(I)V"⟩, prog_7_method_5_code, 5, none, 7, 1),
  (⟨"QueuePlaces", "tellRatio", "(JJ)I"⟩, prog_1_method_48_code, 7, some .int, 0, 2),
  (⟨"QueuePlaces", "greatestDivisor", "(JJ)J"⟩, prog_1_method_49_code, 11, some .long, 0, 2),
  (⟨"QueuePlaces", "can", "(II)I"⟩, prog_1_method_28_code, 4, some .int, 0, 2),
  (⟨"QueuePlaces$Orders", "whoCan", "(I)I"⟩, prog_7_method_6_code, 2, some .int, 7, 1),
  (⟨"QueuePlaces", "next", "(I)I"⟩, prog_1_method_29_code, 5, some .int, 0, 1),
  (⟨"QueuePlaces$Orders", "greatestPart", "(I)I"⟩, prog_7_method_7_code, 4, some .int, 7, 1),
  (⟨"QueuePlaces", "sets", "(I)I"⟩, prog_1_method_30_code, 5, some .int, 0, 1),
  (⟨"QueuePlaces$Serving", "wantOfAll", "(I)I"⟩, prog_10_method_10_code, 4, some .int, 5, 1),
  (⟨"QueuePlaces", "sure", "(I)I"⟩, prog_1_method_31_code, 7, some .int, 0, 1),
  (⟨"QueuePlaces", "duel", "(III)I"⟩, prog_1_method_32_code, 4, some .int, 0, 3),
  (⟨"QueuePlaces$Match", "outcome", "(III)I"⟩, prog_5_method_2_code, 4, some .int, 8, 3),
  (⟨"QueuePlaces$Match", "play", "(LQueuePlaces$Match;II)I"⟩, prog_5_method_3_code, 9, some .int, 8, 3),
  (⟨"QueuePlaces$Match", "leadBy", "(I)I"⟩, prog_5_method_4_code, 2, some .int, 8, 1),
  (⟨"QueuePlaces", "odds", "(II)I"⟩, prog_1_method_33_code, 3, some .int, 0, 2),
  (⟨"QueuePlaces$Chances", "ofContent", "(II)J"⟩, prog_2_method_3_code, 6, some .long, 9, 2),
  (⟨"QueuePlaces$Chances", "serveSet", "(I)V"⟩, prog_2_method_5_code, 5, none, 9, 1),
  (⟨"QueuePlaces$Chances", "weight", "(I)J"⟩, prog_2_method_6_code, 2, some .long, 9, 1),
  (⟨"QueuePlaces$Chances", "power", "(II)J"⟩, prog_2_method_7_code, 5, some .long, 9, 2),
  (⟨"QueuePlaces$Chances", "whole", "()J"⟩, prog_2_method_2_code, 1, some .long, 9, 0),
  (⟨"QueuePlaces", "mid", "(I)I"⟩, prog_1_method_34_code, 2, some .int, 0, 1),
  (⟨"QueuePlaces$Chances", "ofLeft", "(I)J"⟩, prog_2_method_4_code, 5, some .long, 9, 1),
  (⟨"QueuePlaces$Serving", "leftInTheEnd", "()I"⟩, prog_10_method_8_code, 1, some .int, 5, 0),
  (⟨"QueuePlaces", "lots", "(II)I"⟩, prog_1_method_35_code, 6, some .int, 0, 2),
  (⟨"QueuePlaces$Line", "actByLot", "(I)V"⟩, prog_4_method_16_code, 4, none, 4, 1),
  (⟨"QueuePlaces$Serving", "gainOfAll", "()I"⟩, prog_10_method_9_code, 1, some .int, 5, 0),
  (⟨"QueuePlaces", "asked", "()I"⟩, prog_1_method_36_code, 1, some .int, 0, 0),
  (⟨"QueuePlaces", "upper", "()J"⟩, prog_1_method_37_code, 1, some .long, 0, 0)]
def qp_ms2 : List (MethodName × ByteArray × Nat × Option FieldType × Nat × Nat) := [
  (⟨"QueuePlaces", "lower", "()J"⟩, prog_1_method_38_code, 1, some .long, 0, 0),
  (⟨"QueuePlaces", "count", "(I)I"⟩, prog_1_method_39_code, 2, some .int, 0, 1),
  (⟨"QueuePlaces", "amount", "(I)I"⟩, prog_1_method_51_code, 2, some .int, 0, 1),
  (⟨"QueuePlaces$Crowd", "howMany", "(I)I"⟩, prog_3_method_9_code, 4, some .int, 3, 1),
  (⟨"QueuePlaces$Shelf", "there", "()I"⟩, prog_11_method_13_code, 3, some .int, 1, 0),
  (⟨"QueuePlaces", "digest", "()J"⟩, prog_1_method_42_code, 5, some .long, 0, 0),
  (⟨"QueuePlaces", "trait", "(II)I"⟩, prog_1_method_50_code, 3, some .int, 0, 2),
  (⟨"QueuePlaces$Serving", "turnOf", "(I)I"⟩, prog_10_method_6_code, 2, some .int, 5, 1),
  (⟨"QueuePlaces$Line", "metBy", "(I)I"⟩, prog_4_method_7_code, 4, some .int, 4, 1),
  (⟨"QueuePlaces$Line", "saleOf", "(I)I"⟩, prog_4_method_9_code, 2, some .int, 4, 1),
  (⟨"QueuePlaces$Shelf", "digested", "(J)J"⟩, prog_11_method_14_code, 7, some .long, 1, 1),
  (⟨"QueuePlacesLaw", "cell", "([II)I"⟩, method_2_code, 2, some .int, 13, 2),
  (⟨"QueuePlacesLaw", "up", "(II)I"⟩, method_3_code, 2, some .int, 13, 2),
  (⟨"QueuePlacesLaw", "lay", "([I[I)V"⟩, method_4_code, 4, none, 13, 2),
  (⟨"QueuePlacesLaw", "made", "(LQueuePlaces;[I)Z"⟩, method_6_code, 5, some .boolean, 13, 2),
  (⟨"QueuePlaces", "text", "(II)I"⟩, prog_1_method_8_code, 3, some .int, 0, 2),
  (⟨"QueuePlaces", "put", "(III)I"⟩, prog_1_method_9_code, 6, some .int, 0, 3),
  (⟨"QueuePlacesLaw", "letter", "(I)I"⟩, method_5_code, 1, some .int, 13, 1),
  (⟨"QueuePlacesLaw", "bits", "(I)I"⟩, method_8_code, 3, some .int, 13, 1),
  (⟨"QueuePlacesLaw", "told", "(LQueuePlaces;II)I"⟩, method_9_code, 3, some .int, 13, 3),
  (⟨"QueuePlaces", "one", "(II)I"⟩, prog_1_method_12_code, 3, some .int, 0, 2)]
def qp_ms : List (MethodName × ByteArray × Nat × Option FieldType × Nat × Nat) := qp_ms0 ++ (qp_ms1 ++ (qp_ms2))
def qp_m0 : MethodName × ByteArray × Nat × Option FieldType × Nat × Nat := (⟨"", "", ""⟩, ⟨#[]⟩, 0, none, 20, 0)
def qp_m (mi : Nat) : MethodName × ByteArray × Nat × Option FieldType × Nat × Nat := qp_ms.getD mi qp_m0
def qp_y (mi : Nat) : MethodName := (qp_m mi).1
def qp_b (mi : Nat) : ByteArray := (qp_m mi).2.1
def qp_mL (mi : Nat) : Nat := (qp_m mi).2.2.1
def qp_rt (mi : Nat) : Option FieldType := (qp_m mi).2.2.2.1
def qp_o (mi : Nat) : Nat := (qp_m mi).2.2.2.2.1
def qp_na (mi : Nat) : Nat := (qp_m mi).2.2.2.2.2
/-- fetch -/
def qp_ft8 (K : List (List (Nat × Instr × Int32 × Nat))) (pc : Nat) : Option (Instr × Int32 × Nat) := match qp_nth K (pc / 16) with
  | some b => qp_lk b pc
  | none => none

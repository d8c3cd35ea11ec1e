/-! THE LAW'S CODE BY WINDOWS: eight times sixteen bytes each, every four -/
def qp_fb (base : Nat) (K : List (List (Nat × Instr × Int32 × Nat))) (pc : Nat) : Option (Instr × Int32 × Nat) := match qp_nth K (pc / 16 - base) with
  | some b => qp_lk b pc
  | none => none
def qp_wnd (K : List (List (Nat × Instr × Int32 × Nat))) : Bool := K.all (fun b => b.all (fun q => decide (qp_ft8 qp_kL q.1 = some q.2)))
theorem qp_wn_of {base : Nat} {K : List (List (Nat × Instr × Int32 × Nat))} (h : qp_wnd K = true) : ∀ (pc : Nat) (e : Instr × Int32 × Nat), qp_fb base K pc = some e → qp_ft8 qp_kL pc = some e := by
  intro pc e he
  unfold qp_fb at he
  cases hb : qp_nth K (pc / 16 - base) with
  | none => rw [hb] at he; cases he
  | some b =>
    rw [hb] at he
    exact of_decide_eq_true (List.all_eq_true.mp (List.all_eq_true.mp h b (qp_nth_mem hb)) _ (qp_lk_mem he))
def qp_kM0 : List (List (Nat × Instr × Int32 × Nat)) := [
  [(0, .new 20, 0, 0), (3, .dup, 0, 0), (4, .invokespecial 42, 0, 2), (7, .astore_n 1, 0, 0), (8, .bipush 34, 34, 0), (10, .newarray .int, 0, 0), (12, .astore_n 2, 0, 0), (13, .aload_n 0, 0, 0), (14, .aload_n 2, 0, 0), (15, .invokestatic 43, 0, 1331)],
  [(18, .aload_n 1, 0, 0), (19, .aload_n 2, 0, 0), (20, .invokestatic 47, 0, 1341), (23, .ifCond .ne 5, 0, 28), (26, .iconst 0, 0, 0), (27, .ireturn, 0, 0), (28, .aload_n 2, 0, 0), (29, .iconst 0, 0, 0), (30, .iaload, 0, 0), (31, .istore_n 3, 0, 0)],
  [(32, .aload_n 1, 0, 0), (33, .iconst 1, 1, 0), (34, .aload_n 0, 0, 0), (35, .bipush 7, 7, 0), (37, .invokestatic 9, 0, 1311), (40, .bipush 12, 12, 0), (42, .invokestatic 15, 0, 1321), (45, .iadd, 0, 0), (46, .iconst 1, 1, 0), (47, .aload_n 0, 0, 0)],
  [(48, .bipush 8, 8, 0), (50, .invokestatic 9, 0, 1311), (53, .ldc 51, 2000000, 0), (55, .invokestatic 15, 0, 1321), (58, .iadd, 0, 0), (59, .invokevirtual 52, 0, 1150), (62, .aload_n 1, 0, 0), (63, .iconst 5, 5, 0)],
  [(64, .invokevirtual 55, 0, 1210), (67, .if_icmp .ne 16, 0, 83), (70, .aload_n 1, 0, 0), (71, .iconst 0, 0, 0), (72, .invokevirtual 58, 0, 590), (75, .aload_n 1, 0, 0), (76, .iconst 3, 3, 0), (77, .invokevirtual 55, 0, 1210)],
  [(80, .if_icmp .eq 5, 0, 85), (83, .iconst 0, 0, 0), (84, .ireturn, 0, 0), (85, .aload_n 1, 0, 0), (86, .iconst 3, 3, 0), (87, .invokevirtual 55, 0, 1210), (90, .istore 4, 0, 0), (92, .aload_n 1, 0, 0), (93, .iconst 2, 2, 0), (94, .invokevirtual 55, 0, 1210)],
  [(97, .istore 5, 0, 0), (99, .aload_n 1, 0, 0), (100, .iconst 1, 1, 0), (101, .invokevirtual 55, 0, 1210), (104, .istore 6, 0, 0), (106, .aload_n 1, 0, 0), (107, .iconst 4, 4, 0), (108, .invokevirtual 55, 0, 1210), (111, .istore 7, 0, 0)],
  [(113, .aload_n 1, 0, 0), (114, .iconst 5, 5, 0), (115, .invokevirtual 55, 0, 1210), (118, .istore 8, 0, 0), (120, .aload_n 1, 0, 0), (121, .bipush 6, 6, 0), (123, .invokevirtual 55, 0, 1210), (126, .istore 9, 0, 0)]]
theorem qp_fx0 : ∀ (pc : Nat) (e : Instr × Int32 × Nat), qp_fb 0 qp_kM0 pc = some e → qp_ft8 qp_kL pc = some e := qp_wn_of (by decide +kernel)
def qp_kM1 : List (List (Nat × Instr × Int32 × Nat)) := [
  [(64, .invokevirtual 55, 0, 1210), (67, .if_icmp .ne 16, 0, 83), (70, .aload_n 1, 0, 0), (71, .iconst 0, 0, 0), (72, .invokevirtual 58, 0, 590), (75, .aload_n 1, 0, 0), (76, .iconst 3, 3, 0), (77, .invokevirtual 55, 0, 1210)],
  [(80, .if_icmp .eq 5, 0, 85), (83, .iconst 0, 0, 0), (84, .ireturn, 0, 0), (85, .aload_n 1, 0, 0), (86, .iconst 3, 3, 0), (87, .invokevirtual 55, 0, 1210), (90, .istore 4, 0, 0), (92, .aload_n 1, 0, 0), (93, .iconst 2, 2, 0), (94, .invokevirtual 55, 0, 1210)],
  [(97, .istore 5, 0, 0), (99, .aload_n 1, 0, 0), (100, .iconst 1, 1, 0), (101, .invokevirtual 55, 0, 1210), (104, .istore 6, 0, 0), (106, .aload_n 1, 0, 0), (107, .iconst 4, 4, 0), (108, .invokevirtual 55, 0, 1210), (111, .istore 7, 0, 0)],
  [(113, .aload_n 1, 0, 0), (114, .iconst 5, 5, 0), (115, .invokevirtual 55, 0, 1210), (118, .istore 8, 0, 0), (120, .aload_n 1, 0, 0), (121, .bipush 6, 6, 0), (123, .invokevirtual 55, 0, 1210), (126, .istore 9, 0, 0)],
  [(128, .iconst 0, 0, 0), (129, .istore 10, 0, 0), (131, .iconst 0, 0, 0), (132, .istore 11, 0, 0), (134, .iconst 0, 0, 0), (135, .istore 12, 0, 0), (137, .bipush 6, 6, 0), (139, .newarray .int, 0, 0), (141, .astore 13, 0, 0), (143, .bipush 6, 6, 0)],
  [(145, .newarray .int, 0, 0), (147, .astore 14, 0, 0), (149, .iconst 0, 0, 0), (150, .istore 15, 0, 0), (152, .iload 15, 0, 0), (154, .iload_n 3, 0, 0), (155, .if_icmp .ge 243, 0, 398), (158, .aload_n 1, 0, 0), (159, .iload 15, 0, 0)],
  [(161, .invokevirtual 61, 0, 620), (164, .istore 16, 0, 0), (166, .aload 13, 0, 0), (168, .iload 15, 0, 0), (170, .iload 16, 0, 0), (172, .iastore, 0, 0), (173, .iload 10, 0, 0), (175, .iconst 1, 1, 0)],
  [(176, .iload 16, 0, 0), (178, .ishl, 0, 0), (179, .ior, 0, 0), (180, .istore 10, 0, 0), (182, .aload 14, 0, 0), (184, .iload 16, 0, 0), (186, .aload_n 1, 0, 0), (187, .iload 16, 0, 0), (189, .iconst 4, 4, 0), (190, .invokestatic 64, 0, 1391)]]
theorem qp_fx1 : ∀ (pc : Nat) (e : Instr × Int32 × Nat), qp_fb 4 qp_kM1 pc = some e → qp_ft8 qp_kL pc = some e := qp_wn_of (by decide +kernel)
def qp_kM2 : List (List (Nat × Instr × Int32 × Nat)) := [
  [(128, .iconst 0, 0, 0), (129, .istore 10, 0, 0), (131, .iconst 0, 0, 0), (132, .istore 11, 0, 0), (134, .iconst 0, 0, 0), (135, .istore 12, 0, 0), (137, .bipush 6, 6, 0), (139, .newarray .int, 0, 0), (141, .astore 13, 0, 0), (143, .bipush 6, 6, 0)],
  [(145, .newarray .int, 0, 0), (147, .astore 14, 0, 0), (149, .iconst 0, 0, 0), (150, .istore 15, 0, 0), (152, .iload 15, 0, 0), (154, .iload_n 3, 0, 0), (155, .if_icmp .ge 243, 0, 398), (158, .aload_n 1, 0, 0), (159, .iload 15, 0, 0)],
  [(161, .invokevirtual 61, 0, 620), (164, .istore 16, 0, 0), (166, .aload 13, 0, 0), (168, .iload 15, 0, 0), (170, .iload 16, 0, 0), (172, .iastore, 0, 0), (173, .iload 10, 0, 0), (175, .iconst 1, 1, 0)],
  [(176, .iload 16, 0, 0), (178, .ishl, 0, 0), (179, .ior, 0, 0), (180, .istore 10, 0, 0), (182, .aload 14, 0, 0), (184, .iload 16, 0, 0), (186, .aload_n 1, 0, 0), (187, .iload 16, 0, 0), (189, .iconst 4, 4, 0), (190, .invokestatic 64, 0, 1391)],
  [(193, .iastore, 0, 0), (194, .iload 11, 0, 0), (196, .aload 14, 0, 0), (198, .iload 16, 0, 0), (200, .iaload, 0, 0), (201, .iadd, 0, 0), (202, .istore 11, 0, 0), (204, .aload_n 1, 0, 0), (205, .iload 16, 0, 0), (207, .iconst 5, 5, 0)],
  [(208, .invokestatic 64, 0, 1391), (211, .istore 17, 0, 0), (213, .iload 12, 0, 0), (215, .iconst 1, 1, 0), (216, .iload 17, 0, 0), (218, .ishl, 0, 0), (219, .ior, 0, 0), (220, .istore 12, 0, 0), (222, .aload_n 1, 0, 0), (223, .iload 16, 0, 0)],
  [(225, .iconst 2, 2, 0), (226, .invokestatic 64, 0, 1391), (229, .iload 15, 0, 0), (231, .if_icmp .ne 159, 0, 390), (234, .aload_n 1, 0, 0), (235, .iload 16, 0, 0), (237, .iconst 3, 3, 0), (238, .invokestatic 64, 0, 1391)],
  [(241, .aload_n 1, 0, 0), (242, .iload 16, 0, 0), (244, .iload 15, 0, 0), (246, .invokevirtual 68, 0, 630), (249, .if_icmp .ne 141, 0, 390), (252, .aload 14, 0, 0), (254, .iload 16, 0, 0)]]
theorem qp_fx2 : ∀ (pc : Nat) (e : Instr × Int32 × Nat), qp_fb 8 qp_kM2 pc = some e → qp_ft8 qp_kL pc = some e := qp_wn_of (by decide +kernel)
def qp_kM3 : List (List (Nat × Instr × Int32 × Nat)) := [
  [(193, .iastore, 0, 0), (194, .iload 11, 0, 0), (196, .aload 14, 0, 0), (198, .iload 16, 0, 0), (200, .iaload, 0, 0), (201, .iadd, 0, 0), (202, .istore 11, 0, 0), (204, .aload_n 1, 0, 0), (205, .iload 16, 0, 0), (207, .iconst 5, 5, 0)],
  [(208, .invokestatic 64, 0, 1391), (211, .istore 17, 0, 0), (213, .iload 12, 0, 0), (215, .iconst 1, 1, 0), (216, .iload 17, 0, 0), (218, .ishl, 0, 0), (219, .ior, 0, 0), (220, .istore 12, 0, 0), (222, .aload_n 1, 0, 0), (223, .iload 16, 0, 0)],
  [(225, .iconst 2, 2, 0), (226, .invokestatic 64, 0, 1391), (229, .iload 15, 0, 0), (231, .if_icmp .ne 159, 0, 390), (234, .aload_n 1, 0, 0), (235, .iload 16, 0, 0), (237, .iconst 3, 3, 0), (238, .invokestatic 64, 0, 1391)],
  [(241, .aload_n 1, 0, 0), (242, .iload 16, 0, 0), (244, .iload 15, 0, 0), (246, .invokevirtual 68, 0, 630), (249, .if_icmp .ne 141, 0, 390), (252, .aload 14, 0, 0), (254, .iload 16, 0, 0)],
  [(256, .iaload, 0, 0), (257, .ifCond .lt 133, 0, 390), (260, .aload 14, 0, 0), (262, .iload 16, 0, 0), (264, .iaload, 0, 0), (265, .aload_n 1, 0, 0), (266, .iload 16, 0, 0), (268, .iload 15, 0, 0), (270, .invokevirtual 68, 0, 630)],
  [(273, .if_icmp .gt 117, 0, 390), (276, .iload 17, 0, 0), (278, .ifCond .lt 112, 0, 390), (281, .iload 17, 0, 0), (283, .iload_n 3, 0, 0), (284, .if_icmp .ge 106, 0, 390), (287, .iload 17, 0, 0)],
  [(289, .aload_n 2, 0, 0), (290, .bipush 8, 8, 0), (292, .iload 16, 0, 0), (294, .iadd, 0, 0), (295, .iaload, 0, 0), (296, .if_icmp .le 7, 0, 303), (299, .iconst 1, 1, 0), (300, .goto 4, 0, 304), (303, .iconst 0, 0, 0)],
  [(304, .iload 7, 0, 0), (306, .iload 16, 0, 0), (308, .ishr, 0, 0), (309, .iconst 1, 1, 0), (310, .iand, 0, 0), (311, .iconst 1, 1, 0), (312, .if_icmp .ne 7, 0, 319), (315, .iconst 1, 1, 0), (316, .goto 4, 0, 320), (319, .iconst 0, 0, 0)]]
theorem qp_fx3 : ∀ (pc : Nat) (e : Instr × Int32 × Nat), qp_fb 12 qp_kM3 pc = some e → qp_ft8 qp_kL pc = some e := qp_wn_of (by decide +kernel)
def qp_kM4 : List (List (Nat × Instr × Int32 × Nat)) := [
  [(256, .iaload, 0, 0), (257, .ifCond .lt 133, 0, 390), (260, .aload 14, 0, 0), (262, .iload 16, 0, 0), (264, .iaload, 0, 0), (265, .aload_n 1, 0, 0), (266, .iload 16, 0, 0), (268, .iload 15, 0, 0), (270, .invokevirtual 68, 0, 630)],
  [(273, .if_icmp .gt 117, 0, 390), (276, .iload 17, 0, 0), (278, .ifCond .lt 112, 0, 390), (281, .iload 17, 0, 0), (283, .iload_n 3, 0, 0), (284, .if_icmp .ge 106, 0, 390), (287, .iload 17, 0, 0)],
  [(289, .aload_n 2, 0, 0), (290, .bipush 8, 8, 0), (292, .iload 16, 0, 0), (294, .iadd, 0, 0), (295, .iaload, 0, 0), (296, .if_icmp .le 7, 0, 303), (299, .iconst 1, 1, 0), (300, .goto 4, 0, 304), (303, .iconst 0, 0, 0)],
  [(304, .iload 7, 0, 0), (306, .iload 16, 0, 0), (308, .ishr, 0, 0), (309, .iconst 1, 1, 0), (310, .iand, 0, 0), (311, .iconst 1, 1, 0), (312, .if_icmp .ne 7, 0, 319), (315, .iconst 1, 1, 0), (316, .goto 4, 0, 320), (319, .iconst 0, 0, 0)],
  [(320, .if_icmp .ne 70, 0, 390), (323, .iload 7, 0, 0), (325, .iload 16, 0, 0), (327, .ishr, 0, 0), (328, .iconst 1, 1, 0), (329, .iand, 0, 0), (330, .iconst 1, 1, 0), (331, .if_icmp .ne 11, 0, 342), (334, .aload 14, 0, 0)],
  [(336, .iload 16, 0, 0), (338, .iaload, 0, 0), (339, .ifCond .ne 51, 0, 390), (342, .iload 9, 0, 0), (344, .iload 16, 0, 0), (346, .ishr, 0, 0), (347, .iconst 1, 1, 0), (348, .iand, 0, 0), (349, .iconst 1, 1, 0), (350, .if_icmp .ne 7, 0, 357)],
  [(353, .iconst 1, 1, 0), (354, .goto 4, 0, 358), (357, .iconst 0, 0, 0), (358, .aload 14, 0, 0), (360, .iload 16, 0, 0), (362, .iaload, 0, 0), (363, .ifCond .le 23, 0, 386), (366, .aload 14, 0, 0)],
  [(368, .iload 16, 0, 0), (370, .iaload, 0, 0), (371, .aload_n 1, 0, 0), (372, .iload 16, 0, 0), (374, .iload 15, 0, 0), (376, .invokevirtual 68, 0, 630), (379, .if_icmp .ne 7, 0, 386), (382, .iconst 1, 1, 0), (383, .goto 4, 0, 387)]]
theorem qp_fx4 : ∀ (pc : Nat) (e : Instr × Int32 × Nat), qp_fb 16 qp_kM4 pc = some e → qp_ft8 qp_kL pc = some e := qp_wn_of (by decide +kernel)
def qp_kM5 : List (List (Nat × Instr × Int32 × Nat)) := [
  [(320, .if_icmp .ne 70, 0, 390), (323, .iload 7, 0, 0), (325, .iload 16, 0, 0), (327, .ishr, 0, 0), (328, .iconst 1, 1, 0), (329, .iand, 0, 0), (330, .iconst 1, 1, 0), (331, .if_icmp .ne 11, 0, 342), (334, .aload 14, 0, 0)],
  [(336, .iload 16, 0, 0), (338, .iaload, 0, 0), (339, .ifCond .ne 51, 0, 390), (342, .iload 9, 0, 0), (344, .iload 16, 0, 0), (346, .ishr, 0, 0), (347, .iconst 1, 1, 0), (348, .iand, 0, 0), (349, .iconst 1, 1, 0), (350, .if_icmp .ne 7, 0, 357)],
  [(353, .iconst 1, 1, 0), (354, .goto 4, 0, 358), (357, .iconst 0, 0, 0), (358, .aload 14, 0, 0), (360, .iload 16, 0, 0), (362, .iaload, 0, 0), (363, .ifCond .le 23, 0, 386), (366, .aload 14, 0, 0)],
  [(368, .iload 16, 0, 0), (370, .iaload, 0, 0), (371, .aload_n 1, 0, 0), (372, .iload 16, 0, 0), (374, .iload 15, 0, 0), (376, .invokevirtual 68, 0, 630), (379, .if_icmp .ne 7, 0, 386), (382, .iconst 1, 1, 0), (383, .goto 4, 0, 387)],
  [(386, .iconst 0, 0, 0), (387, .if_icmp .eq 5, 0, 392), (390, .iconst 0, 0, 0), (391, .ireturn, 0, 0), (392, .iinc 15 1, 1, 0), (395, .goto (-243), 0, 152), (398, .iconst 0, 0, 0), (399, .istore 15, 0, 0)],
  [(401, .iload 15, 0, 0), (403, .iload_n 3, 0, 0), (404, .if_icmp .ge 69, 0, 473), (407, .iload 15, 0, 0), (409, .ifCond .le 15, 0, 424), (412, .iconst 1, 1, 0), (413, .aload 13, 0, 0), (415, .iload 15, 0, 0)],
  [(417, .iconst 1, 1, 0), (418, .isub, 0, 0), (419, .iaload, 0, 0), (420, .ishl, 0, 0), (421, .goto 4, 0, 425), (424, .iconst 0, 0, 0), (425, .iload 15, 0, 0), (427, .iload_n 3, 0, 0), (428, .iconst 1, 1, 0), (429, .isub, 0, 0), (430, .if_icmp .ge 15, 0, 445)],
  [(433, .iconst 1, 1, 0), (434, .aload 13, 0, 0), (436, .iload 15, 0, 0), (438, .iconst 1, 1, 0), (439, .iadd, 0, 0), (440, .iaload, 0, 0), (441, .ishl, 0, 0), (442, .goto 4, 0, 446), (445, .iconst 0, 0, 0), (446, .ior, 0, 0), (447, .istore 16, 0, 0)]]
theorem qp_fx5 : ∀ (pc : Nat) (e : Instr × Int32 × Nat), qp_fb 20 qp_kM5 pc = some e → qp_ft8 qp_kL pc = some e := qp_wn_of (by decide +kernel)
def qp_kM6 : List (List (Nat × Instr × Int32 × Nat)) := [
  [(386, .iconst 0, 0, 0), (387, .if_icmp .eq 5, 0, 392), (390, .iconst 0, 0, 0), (391, .ireturn, 0, 0), (392, .iinc 15 1, 1, 0), (395, .goto (-243), 0, 152), (398, .iconst 0, 0, 0), (399, .istore 15, 0, 0)],
  [(401, .iload 15, 0, 0), (403, .iload_n 3, 0, 0), (404, .if_icmp .ge 69, 0, 473), (407, .iload 15, 0, 0), (409, .ifCond .le 15, 0, 424), (412, .iconst 1, 1, 0), (413, .aload 13, 0, 0), (415, .iload 15, 0, 0)],
  [(417, .iconst 1, 1, 0), (418, .isub, 0, 0), (419, .iaload, 0, 0), (420, .ishl, 0, 0), (421, .goto 4, 0, 425), (424, .iconst 0, 0, 0), (425, .iload 15, 0, 0), (427, .iload_n 3, 0, 0), (428, .iconst 1, 1, 0), (429, .isub, 0, 0), (430, .if_icmp .ge 15, 0, 445)],
  [(433, .iconst 1, 1, 0), (434, .aload 13, 0, 0), (436, .iload 15, 0, 0), (438, .iconst 1, 1, 0), (439, .iadd, 0, 0), (440, .iaload, 0, 0), (441, .ishl, 0, 0), (442, .goto 4, 0, 446), (445, .iconst 0, 0, 0), (446, .ior, 0, 0), (447, .istore 16, 0, 0)],
  [(449, .aload_n 1, 0, 0), (450, .aload 13, 0, 0), (452, .iload 15, 0, 0), (454, .iaload, 0, 0), (455, .bipush 6, 6, 0), (457, .invokestatic 64, 0, 1391), (460, .iload 16, 0, 0), (462, .if_icmp .eq 5, 0, 467)],
  [(465, .iconst 0, 0, 0), (466, .ireturn, 0, 0), (467, .iinc 15 1, 1, 0), (470, .goto (-69), 0, 401), (473, .iload 10, 0, 0), (475, .iconst 1, 1, 0), (476, .iload_n 3, 0, 0), (477, .ishl, 0, 0), (478, .iconst 1, 1, 0), (479, .isub, 0, 0)],
  [(480, .if_icmp .ne 34, 0, 514), (483, .iload 12, 0, 0), (485, .iconst 1, 1, 0), (486, .iload_n 3, 0, 0), (487, .ishl, 0, 0), (488, .iconst 1, 1, 0), (489, .isub, 0, 0), (490, .if_icmp .ne 24, 0, 514), (493, .iload 11, 0, 0), (495, .iload 8, 0, 0)],
  [(497, .if_icmp .ne 17, 0, 514), (500, .iload 8, 0, 0), (502, .iload 6, 0, 0), (504, .if_icmp .gt 10, 0, 514), (507, .iload 5, 0, 0), (509, .bipush 12, 12, 0), (511, .if_icmp .le 5, 0, 516)]]
theorem qp_fx6 : ∀ (pc : Nat) (e : Instr × Int32 × Nat), qp_fb 24 qp_kM6 pc = some e → qp_ft8 qp_kL pc = some e := qp_wn_of (by decide +kernel)
def qp_kM7 : List (List (Nat × Instr × Int32 × Nat)) := [
  [(449, .aload_n 1, 0, 0), (450, .aload 13, 0, 0), (452, .iload 15, 0, 0), (454, .iaload, 0, 0), (455, .bipush 6, 6, 0), (457, .invokestatic 64, 0, 1391), (460, .iload 16, 0, 0), (462, .if_icmp .eq 5, 0, 467)],
  [(465, .iconst 0, 0, 0), (466, .ireturn, 0, 0), (467, .iinc 15 1, 1, 0), (470, .goto (-69), 0, 401), (473, .iload 10, 0, 0), (475, .iconst 1, 1, 0), (476, .iload_n 3, 0, 0), (477, .ishl, 0, 0), (478, .iconst 1, 1, 0), (479, .isub, 0, 0)],
  [(480, .if_icmp .ne 34, 0, 514), (483, .iload 12, 0, 0), (485, .iconst 1, 1, 0), (486, .iload_n 3, 0, 0), (487, .ishl, 0, 0), (488, .iconst 1, 1, 0), (489, .isub, 0, 0), (490, .if_icmp .ne 24, 0, 514), (493, .iload 11, 0, 0), (495, .iload 8, 0, 0)],
  [(497, .if_icmp .ne 17, 0, 514), (500, .iload 8, 0, 0), (502, .iload 6, 0, 0), (504, .if_icmp .gt 10, 0, 514), (507, .iload 5, 0, 0), (509, .bipush 12, 12, 0), (511, .if_icmp .le 5, 0, 516)],
  [(514, .iconst 0, 0, 0), (515, .ireturn, 0, 0), (516, .iconst 0, 0, 0), (517, .istore 15, 0, 0), (519, .iload 15, 0, 0), (521, .iload_n 3, 0, 0), (522, .if_icmp .ge 230, 0, 752), (525, .aload_n 1, 0, 0), (526, .iload 15, 0, 0)],
  [(528, .invokevirtual 71, 0, 730), (531, .istore 16, 0, 0), (533, .aload_n 1, 0, 0), (534, .invokevirtual 38, 0, 1180), (537, .istore 17, 0, 0), (539, .iload 16, 0, 0), (541, .ifCond .lt 32, 0, 573)],
  [(544, .iload 16, 0, 0), (546, .iload_n 3, 0, 0), (547, .if_icmp .ge 26, 0, 573), (550, .aload_n 1, 0, 0), (551, .iload 15, 0, 0), (553, .iload 16, 0, 0), (555, .invokevirtual 74, 0, 650), (558, .iload 17, 0, 0)],
  [(560, .if_icmp .ne 13, 0, 573), (563, .iload 17, 0, 0), (565, .aload 14, 0, 0), (567, .iload 15, 0, 0), (569, .iaload, 0, 0), (570, .if_icmp .ge 5, 0, 575), (573, .iconst 0, 0, 0), (574, .ireturn, 0, 0), (575, .iconst 0, 0, 0)]]
theorem qp_fx7 : ∀ (pc : Nat) (e : Instr × Int32 × Nat), qp_fb 28 qp_kM7 pc = some e → qp_ft8 qp_kL pc = some e := qp_wn_of (by decide +kernel)
def qp_kM8 : List (List (Nat × Instr × Int32 × Nat)) := [
  [(514, .iconst 0, 0, 0), (515, .ireturn, 0, 0), (516, .iconst 0, 0, 0), (517, .istore 15, 0, 0), (519, .iload 15, 0, 0), (521, .iload_n 3, 0, 0), (522, .if_icmp .ge 230, 0, 752), (525, .aload_n 1, 0, 0), (526, .iload 15, 0, 0)],
  [(528, .invokevirtual 71, 0, 730), (531, .istore 16, 0, 0), (533, .aload_n 1, 0, 0), (534, .invokevirtual 38, 0, 1180), (537, .istore 17, 0, 0), (539, .iload 16, 0, 0), (541, .ifCond .lt 32, 0, 573)],
  [(544, .iload 16, 0, 0), (546, .iload_n 3, 0, 0), (547, .if_icmp .ge 26, 0, 573), (550, .aload_n 1, 0, 0), (551, .iload 15, 0, 0), (553, .iload 16, 0, 0), (555, .invokevirtual 74, 0, 650), (558, .iload 17, 0, 0)],
  [(560, .if_icmp .ne 13, 0, 573), (563, .iload 17, 0, 0), (565, .aload 14, 0, 0), (567, .iload 15, 0, 0), (569, .iaload, 0, 0), (570, .if_icmp .ge 5, 0, 575), (573, .iconst 0, 0, 0), (574, .ireturn, 0, 0), (575, .iconst 0, 0, 0)],
  [(576, .istore 18, 0, 0), (578, .iload 18, 0, 0), (580, .iload_n 3, 0, 0), (581, .if_icmp .ge 165, 0, 746), (584, .aload_n 1, 0, 0), (585, .iload 15, 0, 0), (587, .iload 18, 0, 0), (589, .invokevirtual 74, 0, 650)],
  [(592, .istore 19, 0, 0), (594, .aload_n 1, 0, 0), (595, .iload 15, 0, 0), (597, .iload 18, 0, 0), (599, .invokevirtual 77, 0, 420), (602, .istore 20, 0, 0), (604, .aload 13, 0, 0), (606, .iload 18, 0, 0)],
  [(608, .iaload, 0, 0), (609, .iload 15, 0, 0), (611, .if_icmp .ne 7, 0, 618), (614, .iconst 1, 1, 0), (615, .goto 4, 0, 619), (618, .iconst 0, 0, 0), (619, .istore 21, 0, 0), (621, .iload 19, 0, 0), (623, .iload 17, 0, 0)],
  [(625, .if_icmp .gt 113, 0, 738), (628, .iload 19, 0, 0), (630, .iload 17, 0, 0), (632, .if_icmp .ne 10, 0, 642), (635, .iload 18, 0, 0), (637, .iload 16, 0, 0), (639, .if_icmp .lt 99, 0, 738)]]
theorem qp_fx8 : ∀ (pc : Nat) (e : Instr × Int32 × Nat), qp_fb 32 qp_kM8 pc = some e → qp_ft8 qp_kL pc = some e := qp_wn_of (by decide +kernel)
def qp_kM9 : List (List (Nat × Instr × Int32 × Nat)) := [
  [(576, .istore 18, 0, 0), (578, .iload 18, 0, 0), (580, .iload_n 3, 0, 0), (581, .if_icmp .ge 165, 0, 746), (584, .aload_n 1, 0, 0), (585, .iload 15, 0, 0), (587, .iload 18, 0, 0), (589, .invokevirtual 74, 0, 650)],
  [(592, .istore 19, 0, 0), (594, .aload_n 1, 0, 0), (595, .iload 15, 0, 0), (597, .iload 18, 0, 0), (599, .invokevirtual 77, 0, 420), (602, .istore 20, 0, 0), (604, .aload 13, 0, 0), (606, .iload 18, 0, 0)],
  [(608, .iaload, 0, 0), (609, .iload 15, 0, 0), (611, .if_icmp .ne 7, 0, 618), (614, .iconst 1, 1, 0), (615, .goto 4, 0, 619), (618, .iconst 0, 0, 0), (619, .istore 21, 0, 0), (621, .iload 19, 0, 0), (623, .iload 17, 0, 0)],
  [(625, .if_icmp .gt 113, 0, 738), (628, .iload 19, 0, 0), (630, .iload 17, 0, 0), (632, .if_icmp .ne 10, 0, 642), (635, .iload 18, 0, 0), (637, .iload 16, 0, 0), (639, .if_icmp .lt 99, 0, 738)],
  [(642, .iload 21, 0, 0), (644, .ifCond .eq 23, 0, 667), (647, .iload 20, 0, 0), (649, .bipush (-4), (-4), 0), (651, .if_icmp .ne 87, 0, 738), (654, .iload 19, 0, 0)],
  [(656, .aload 14, 0, 0), (658, .iload 15, 0, 0), (660, .iaload, 0, 0), (661, .if_icmp .eq 63, 0, 724), (664, .goto 74, 0, 738), (667, .iload 5, 0, 0), (669, .bipush 12, 12, 0), (671, .if_icmp .ne 13, 0, 684)],
  [(674, .iload 20, 0, 0), (676, .bipush (-4), (-4), 0), (678, .if_icmp .eq 46, 0, 724), (681, .goto 57, 0, 738), (684, .iload 20, 0, 0), (686, .iload 5, 0, 0)],
  [(688, .if_icmp .ne 50, 0, 738), (691, .aload_n 1, 0, 0), (692, .iload 18, 0, 0), (694, .invokevirtual 61, 0, 620), (697, .iload 15, 0, 0), (699, .if_icmp .ne 39, 0, 738), (702, .aload_n 1, 0, 0), (703, .iload 15, 0, 0)]]
theorem qp_fx9 : ∀ (pc : Nat) (e : Instr × Int32 × Nat), qp_fb 36 qp_kM9 pc = some e → qp_ft8 qp_kL pc = some e := qp_wn_of (by decide +kernel)
def qp_kM10 : List (List (Nat × Instr × Int32 × Nat)) := [
  [(642, .iload 21, 0, 0), (644, .ifCond .eq 23, 0, 667), (647, .iload 20, 0, 0), (649, .bipush (-4), (-4), 0), (651, .if_icmp .ne 87, 0, 738), (654, .iload 19, 0, 0)],
  [(656, .aload 14, 0, 0), (658, .iload 15, 0, 0), (660, .iaload, 0, 0), (661, .if_icmp .eq 63, 0, 724), (664, .goto 74, 0, 738), (667, .iload 5, 0, 0), (669, .bipush 12, 12, 0), (671, .if_icmp .ne 13, 0, 684)],
  [(674, .iload 20, 0, 0), (676, .bipush (-4), (-4), 0), (678, .if_icmp .eq 46, 0, 724), (681, .goto 57, 0, 738), (684, .iload 20, 0, 0), (686, .iload 5, 0, 0)],
  [(688, .if_icmp .ne 50, 0, 738), (691, .aload_n 1, 0, 0), (692, .iload 18, 0, 0), (694, .invokevirtual 61, 0, 620), (697, .iload 15, 0, 0), (699, .if_icmp .ne 39, 0, 738), (702, .aload_n 1, 0, 0), (703, .iload 15, 0, 0)],
  [(705, .iconst 4, 4, 0), (706, .invokestatic 64, 0, 1391), (709, .iload 19, 0, 0), (711, .if_icmp .ne 27, 0, 738), (714, .aload_n 1, 0, 0), (715, .iload 4, 0, 0), (717, .invokevirtual 80, 0, 570)],
  [(720, .iconst 1, 1, 0), (721, .if_icmp .ne 17, 0, 738), (724, .aload_n 1, 0, 0), (725, .iload 18, 0, 0), (727, .invokevirtual 61, 0, 620), (730, .aload 13, 0, 0), (732, .iload 18, 0, 0), (734, .iaload, 0, 0), (735, .if_icmp .eq 5, 0, 740)],
  [(738, .iconst 0, 0, 0), (739, .ireturn, 0, 0), (740, .iinc 18 1, 1, 0), (743, .goto (-165), 0, 578), (746, .iinc 15 1, 1, 0), (749, .goto (-230), 0, 519)],
  [(752, .iconst 0, 0, 0), (753, .istore 15, 0, 0), (755, .iload 15, 0, 0), (757, .iload 5, 0, 0), (759, .if_icmp .ge 72, 0, 831), (762, .aload_n 1, 0, 0), (763, .iload 15, 0, 0), (765, .invokevirtual 83, 0, 740)]]
theorem qp_fx10 : ∀ (pc : Nat) (e : Instr × Int32 × Nat), qp_fb 40 qp_kM10 pc = some e → qp_ft8 qp_kL pc = some e := qp_wn_of (by decide +kernel)
def qp_kM11 : List (List (Nat × Instr × Int32 × Nat)) := [
  [(705, .iconst 4, 4, 0), (706, .invokestatic 64, 0, 1391), (709, .iload 19, 0, 0), (711, .if_icmp .ne 27, 0, 738), (714, .aload_n 1, 0, 0), (715, .iload 4, 0, 0), (717, .invokevirtual 80, 0, 570)],
  [(720, .iconst 1, 1, 0), (721, .if_icmp .ne 17, 0, 738), (724, .aload_n 1, 0, 0), (725, .iload 18, 0, 0), (727, .invokevirtual 61, 0, 620), (730, .aload 13, 0, 0), (732, .iload 18, 0, 0), (734, .iaload, 0, 0), (735, .if_icmp .eq 5, 0, 740)],
  [(738, .iconst 0, 0, 0), (739, .ireturn, 0, 0), (740, .iinc 18 1, 1, 0), (743, .goto (-165), 0, 578), (746, .iinc 15 1, 1, 0), (749, .goto (-230), 0, 519)],
  [(752, .iconst 0, 0, 0), (753, .istore 15, 0, 0), (755, .iload 15, 0, 0), (757, .iload 5, 0, 0), (759, .if_icmp .ge 72, 0, 831), (762, .aload_n 1, 0, 0), (763, .iload 15, 0, 0), (765, .invokevirtual 83, 0, 740)],
  [(768, .istore 16, 0, 0), (770, .iload 16, 0, 0), (772, .ifCond .lt 51, 0, 823), (775, .iload 16, 0, 0), (777, .iload 5, 0, 0), (779, .iconst 1, 1, 0), (780, .isub, 0, 0), (781, .iload 15, 0, 0), (783, .isub, 0, 0)],
  [(784, .if_icmp .gt 39, 0, 823), (787, .aload_n 1, 0, 0), (788, .iload 15, 0, 0), (790, .invokevirtual 86, 0, 540), (793, .iload 16, 0, 0), (795, .if_icmp .ne 28, 0, 823), (798, .aload_n 1, 0, 0), (799, .iconst 2, 2, 0)],
  [(800, .invokevirtual 55, 0, 1210), (803, .iload 5, 0, 0), (805, .iconst 1, 1, 0), (806, .isub, 0, 0), (807, .iload 16, 0, 0), (809, .isub, 0, 0), (810, .if_icmp .ne 13, 0, 823), (813, .aload_n 1, 0, 0), (814, .iconst 0, 0, 0), (815, .invokevirtual 89, 0, 610)],
  [(818, .iload 4, 0, 0), (820, .if_icmp .eq 5, 0, 825), (823, .iconst 0, 0, 0), (824, .ireturn, 0, 0), (825, .iinc 15 1, 1, 0), (828, .goto (-73), 0, 755), (831, .iload 5, 0, 0)]]
theorem qp_fx11 : ∀ (pc : Nat) (e : Instr × Int32 × Nat), qp_fb 44 qp_kM11 pc = some e → qp_ft8 qp_kL pc = some e := qp_wn_of (by decide +kernel)
def qp_kM12 : List (List (Nat × Instr × Int32 × Nat)) := [
  [(768, .istore 16, 0, 0), (770, .iload 16, 0, 0), (772, .ifCond .lt 51, 0, 823), (775, .iload 16, 0, 0), (777, .iload 5, 0, 0), (779, .iconst 1, 1, 0), (780, .isub, 0, 0), (781, .iload 15, 0, 0), (783, .isub, 0, 0)],
  [(784, .if_icmp .gt 39, 0, 823), (787, .aload_n 1, 0, 0), (788, .iload 15, 0, 0), (790, .invokevirtual 86, 0, 540), (793, .iload 16, 0, 0), (795, .if_icmp .ne 28, 0, 823), (798, .aload_n 1, 0, 0), (799, .iconst 2, 2, 0)],
  [(800, .invokevirtual 55, 0, 1210), (803, .iload 5, 0, 0), (805, .iconst 1, 1, 0), (806, .isub, 0, 0), (807, .iload 16, 0, 0), (809, .isub, 0, 0), (810, .if_icmp .ne 13, 0, 823), (813, .aload_n 1, 0, 0), (814, .iconst 0, 0, 0), (815, .invokevirtual 89, 0, 610)],
  [(818, .iload 4, 0, 0), (820, .if_icmp .eq 5, 0, 825), (823, .iconst 0, 0, 0), (824, .ireturn, 0, 0), (825, .iinc 15 1, 1, 0), (828, .goto (-73), 0, 755), (831, .iload 5, 0, 0)],
  [(833, .ifCond .le 26, 0, 859), (836, .aload_n 1, 0, 0), (837, .iload 5, 0, 0), (839, .iconst 1, 1, 0), (840, .isub, 0, 0), (841, .invokevirtual 83, 0, 740), (844, .ifCond .ne 13, 0, 857), (847, .aload_n 1, 0, 0)],
  [(848, .iload 5, 0, 0), (850, .invokevirtual 83, 0, 740), (853, .iconst (-1), (-1), 0), (854, .if_icmp .eq 5, 0, 859), (857, .iconst 0, 0, 0), (858, .ireturn, 0, 0), (859, .iload_n 3, 0, 0), (860, .iconst 1, 1, 0), (861, .if_icmp .le 342, 0, 1203)],
  [(864, .aload_n 0, 0, 0), (865, .bipush 9, 9, 0), (867, .invokestatic 9, 0, 1311), (870, .iload_n 3, 0, 0), (871, .invokestatic 15, 0, 1321), (874, .istore 15, 0, 0), (876, .iload 15, 0, 0), (878, .iconst 1, 1, 0), (879, .iadd, 0, 0)],
  [(880, .aload_n 0, 0, 0), (881, .bipush 10, 10, 0), (883, .invokestatic 9, 0, 1311), (886, .iload_n 3, 0, 0), (887, .iconst 1, 1, 0), (888, .isub, 0, 0), (889, .invokestatic 15, 0, 1321), (892, .iadd, 0, 0), (893, .iload_n 3, 0, 0), (894, .irem, 0, 0), (895, .istore 16, 0, 0)]]
theorem qp_fx12 : ∀ (pc : Nat) (e : Instr × Int32 × Nat), qp_fb 48 qp_kM12 pc = some e → qp_ft8 qp_kL pc = some e := qp_wn_of (by decide +kernel)
def qp_kM13 : List (List (Nat × Instr × Int32 × Nat)) := [
  [(833, .ifCond .le 26, 0, 859), (836, .aload_n 1, 0, 0), (837, .iload 5, 0, 0), (839, .iconst 1, 1, 0), (840, .isub, 0, 0), (841, .invokevirtual 83, 0, 740), (844, .ifCond .ne 13, 0, 857), (847, .aload_n 1, 0, 0)],
  [(848, .iload 5, 0, 0), (850, .invokevirtual 83, 0, 740), (853, .iconst (-1), (-1), 0), (854, .if_icmp .eq 5, 0, 859), (857, .iconst 0, 0, 0), (858, .ireturn, 0, 0), (859, .iload_n 3, 0, 0), (860, .iconst 1, 1, 0), (861, .if_icmp .le 342, 0, 1203)],
  [(864, .aload_n 0, 0, 0), (865, .bipush 9, 9, 0), (867, .invokestatic 9, 0, 1311), (870, .iload_n 3, 0, 0), (871, .invokestatic 15, 0, 1321), (874, .istore 15, 0, 0), (876, .iload 15, 0, 0), (878, .iconst 1, 1, 0), (879, .iadd, 0, 0)],
  [(880, .aload_n 0, 0, 0), (881, .bipush 10, 10, 0), (883, .invokestatic 9, 0, 1311), (886, .iload_n 3, 0, 0), (887, .iconst 1, 1, 0), (888, .isub, 0, 0), (889, .invokestatic 15, 0, 1321), (892, .iadd, 0, 0), (893, .iload_n 3, 0, 0), (894, .irem, 0, 0), (895, .istore 16, 0, 0)],
  [(897, .aload_n 0, 0, 0), (898, .bipush 11, 11, 0), (900, .invokestatic 9, 0, 1311), (903, .iload_n 3, 0, 0), (904, .invokestatic 15, 0, 1321), (907, .istore 17, 0, 0), (909, .aload_n 1, 0, 0), (910, .iload 15, 0, 0)],
  [(912, .iload 16, 0, 0), (914, .iload 17, 0, 0), (916, .iconst 5, 5, 0), (917, .invokevirtual 92, 0, 750), (920, .istore 18, 0, 0), (922, .aload_n 1, 0, 0), (923, .iload 15, 0, 0), (925, .bipush 6, 6, 0), (927, .invokestatic 64, 0, 1391)],
  [(930, .iload 16, 0, 0), (932, .ishr, 0, 0), (933, .iconst 1, 1, 0), (934, .iand, 0, 0), (935, .iconst 1, 1, 0), (936, .if_icmp .ne 22, 0, 958), (939, .aload 14, 0, 0), (941, .iload 17, 0, 0), (943, .iaload, 0, 0)],
  [(944, .aload_n 1, 0, 0), (945, .iload 17, 0, 0), (947, .iconst 3, 3, 0), (948, .invokestatic 64, 0, 1391), (951, .if_icmp .ne 7, 0, 958), (954, .iconst 1, 1, 0), (955, .goto 4, 0, 959), (958, .iconst 0, 0, 0), (959, .istore 19, 0, 0)]]
theorem qp_fx13 : ∀ (pc : Nat) (e : Instr × Int32 × Nat), qp_fb 52 qp_kM13 pc = some e → qp_ft8 qp_kL pc = some e := qp_wn_of (by decide +kernel)
def qp_kM14 : List (List (Nat × Instr × Int32 × Nat)) := [
  [(897, .aload_n 0, 0, 0), (898, .bipush 11, 11, 0), (900, .invokestatic 9, 0, 1311), (903, .iload_n 3, 0, 0), (904, .invokestatic 15, 0, 1321), (907, .istore 17, 0, 0), (909, .aload_n 1, 0, 0), (910, .iload 15, 0, 0)],
  [(912, .iload 16, 0, 0), (914, .iload 17, 0, 0), (916, .iconst 5, 5, 0), (917, .invokevirtual 92, 0, 750), (920, .istore 18, 0, 0), (922, .aload_n 1, 0, 0), (923, .iload 15, 0, 0), (925, .bipush 6, 6, 0), (927, .invokestatic 64, 0, 1391)],
  [(930, .iload 16, 0, 0), (932, .ishr, 0, 0), (933, .iconst 1, 1, 0), (934, .iand, 0, 0), (935, .iconst 1, 1, 0), (936, .if_icmp .ne 22, 0, 958), (939, .aload 14, 0, 0), (941, .iload 17, 0, 0), (943, .iaload, 0, 0)],
  [(944, .aload_n 1, 0, 0), (945, .iload 17, 0, 0), (947, .iconst 3, 3, 0), (948, .invokestatic 64, 0, 1391), (951, .if_icmp .ne 7, 0, 958), (954, .iconst 1, 1, 0), (955, .goto 4, 0, 959), (958, .iconst 0, 0, 0), (959, .istore 19, 0, 0)],
  [(961, .iload 18, 0, 0), (963, .bipush (-9), (-9), 0), (965, .if_icmp .lt 36, 0, 1001), (968, .iload 18, 0, 0), (970, .iconst 3, 3, 0), (971, .if_icmp .gt 30, 0, 1001), (974, .iload 18, 0, 0)],
  [(976, .ifCond .ge 10, 0, 986), (979, .iload 18, 0, 0), (981, .bipush (-9), (-9), 0), (983, .if_icmp .ne 18, 0, 1001), (986, .iload 18, 0, 0), (988, .ifCond .ne 7, 0, 995), (991, .iconst 1, 1, 0)],
  [(992, .goto 4, 0, 996), (995, .iconst 0, 0, 0), (996, .iload 19, 0, 0), (998, .if_icmp .eq 5, 0, 1003), (1001, .iconst 0, 0, 0), (1002, .ireturn, 0, 0), (1003, .iload 18, 0, 0), (1005, .ifCond .le 170, 0, 1175)],
  [(1008, .iload 5, 0, 0), (1010, .iload 18, 0, 0), (1012, .iadd, 0, 0), (1013, .bipush 12, 12, 0), (1015, .if_icmp .gt 160, 0, 1175), (1018, .iconst 0, 0, 0), (1019, .istore 20, 0, 0), (1021, .iload 20, 0, 0), (1023, .iload 18, 0, 0)]]
theorem qp_fx14 : ∀ (pc : Nat) (e : Instr × Int32 × Nat), qp_fb 56 qp_kM14 pc = some e → qp_ft8 qp_kL pc = some e := qp_wn_of (by decide +kernel)
def qp_kM15 : List (List (Nat × Instr × Int32 × Nat)) := [
  [(961, .iload 18, 0, 0), (963, .bipush (-9), (-9), 0), (965, .if_icmp .lt 36, 0, 1001), (968, .iload 18, 0, 0), (970, .iconst 3, 3, 0), (971, .if_icmp .gt 30, 0, 1001), (974, .iload 18, 0, 0)],
  [(976, .ifCond .ge 10, 0, 986), (979, .iload 18, 0, 0), (981, .bipush (-9), (-9), 0), (983, .if_icmp .ne 18, 0, 1001), (986, .iload 18, 0, 0), (988, .ifCond .ne 7, 0, 995), (991, .iconst 1, 1, 0)],
  [(992, .goto 4, 0, 996), (995, .iconst 0, 0, 0), (996, .iload 19, 0, 0), (998, .if_icmp .eq 5, 0, 1003), (1001, .iconst 0, 0, 0), (1002, .ireturn, 0, 0), (1003, .iload 18, 0, 0), (1005, .ifCond .le 170, 0, 1175)],
  [(1008, .iload 5, 0, 0), (1010, .iload 18, 0, 0), (1012, .iadd, 0, 0), (1013, .bipush 12, 12, 0), (1015, .if_icmp .gt 160, 0, 1175), (1018, .iconst 0, 0, 0), (1019, .istore 20, 0, 0), (1021, .iload 20, 0, 0), (1023, .iload 18, 0, 0)],
  [(1025, .if_icmp .ge 100, 0, 1125), (1028, .aload_n 1, 0, 0), (1029, .iconst 5, 5, 0), (1030, .iload 20, 0, 0), (1032, .invokevirtual 96, 0, 250), (1035, .istore 21, 0, 0), (1037, .aload_n 1, 0, 0), (1038, .invokevirtual 38, 0, 1180)],
  [(1041, .istore 22, 0, 0), (1043, .aload_n 1, 0, 0), (1044, .iload 15, 0, 0), (1046, .bipush 6, 6, 0), (1048, .invokestatic 64, 0, 1391), (1051, .iload 16, 0, 0), (1053, .ishr, 0, 0), (1054, .iconst 1, 1, 0), (1055, .iand, 0, 0)],
  [(1056, .iconst 1, 1, 0), (1057, .if_icmp .ne 24, 0, 1081), (1060, .aload_n 1, 0, 0), (1061, .iload 17, 0, 0), (1063, .iconst 4, 4, 0), (1064, .invokestatic 64, 0, 1391), (1067, .aload_n 1, 0, 0), (1068, .iload 17, 0, 0), (1070, .iconst 3, 3, 0), (1071, .invokestatic 64, 0, 1391)],
  [(1074, .if_icmp .ne 7, 0, 1081), (1077, .iconst 1, 1, 0), (1078, .goto 4, 0, 1082), (1081, .iconst 0, 0, 0), (1082, .istore 23, 0, 0), (1084, .iload 21, 0, 0), (1086, .iconst 1, 1, 0), (1087, .if_icmp .ne 30, 0, 1117)]]
theorem qp_fx15 : ∀ (pc : Nat) (e : Instr × Int32 × Nat), qp_fb 60 qp_kM15 pc = some e → qp_ft8 qp_kL pc = some e := qp_wn_of (by decide +kernel)
def qp_kM16 : List (List (Nat × Instr × Int32 × Nat)) := [
  [(1025, .if_icmp .ge 100, 0, 1125), (1028, .aload_n 1, 0, 0), (1029, .iconst 5, 5, 0), (1030, .iload 20, 0, 0), (1032, .invokevirtual 96, 0, 250), (1035, .istore 21, 0, 0), (1037, .aload_n 1, 0, 0), (1038, .invokevirtual 38, 0, 1180)],
  [(1041, .istore 22, 0, 0), (1043, .aload_n 1, 0, 0), (1044, .iload 15, 0, 0), (1046, .bipush 6, 6, 0), (1048, .invokestatic 64, 0, 1391), (1051, .iload 16, 0, 0), (1053, .ishr, 0, 0), (1054, .iconst 1, 1, 0), (1055, .iand, 0, 0)],
  [(1056, .iconst 1, 1, 0), (1057, .if_icmp .ne 24, 0, 1081), (1060, .aload_n 1, 0, 0), (1061, .iload 17, 0, 0), (1063, .iconst 4, 4, 0), (1064, .invokestatic 64, 0, 1391), (1067, .aload_n 1, 0, 0), (1068, .iload 17, 0, 0), (1070, .iconst 3, 3, 0), (1071, .invokestatic 64, 0, 1391)],
  [(1074, .if_icmp .ne 7, 0, 1081), (1077, .iconst 1, 1, 0), (1078, .goto 4, 0, 1082), (1081, .iconst 0, 0, 0), (1082, .istore 23, 0, 0), (1084, .iload 21, 0, 0), (1086, .iconst 1, 1, 0), (1087, .if_icmp .ne 30, 0, 1117)],
  [(1090, .iload 23, 0, 0), (1092, .ifCond .ne 25, 0, 1117), (1095, .aload_n 1, 0, 0), (1096, .iload 22, 0, 0), (1098, .bipush 8, 8, 0), (1100, .idiv, 0, 0), (1101, .iload 22, 0, 0), (1103, .bipush 8, 8, 0)],
  [(1105, .irem, 0, 0), (1106, .invokevirtual 77, 0, 420), (1109, .iload 5, 0, 0), (1111, .iload 20, 0, 0), (1113, .iadd, 0, 0), (1114, .if_icmp .eq 5, 0, 1119), (1117, .iconst 0, 0, 0), (1118, .ireturn, 0, 0), (1119, .iinc 20 1, 1, 0)],
  [(1122, .goto (-101), 0, 1021), (1125, .aload_n 1, 0, 0), (1126, .iload 15, 0, 0), (1128, .bipush 6, 6, 0), (1130, .invokestatic 64, 0, 1391), (1133, .iload 16, 0, 0), (1135, .ishr, 0, 0)],
  [(1136, .iconst 1, 1, 0), (1137, .iand, 0, 0), (1138, .iconst 1, 1, 0), (1139, .if_icmp .ne 34, 0, 1173), (1142, .aload_n 1, 0, 0), (1143, .iload 17, 0, 0), (1145, .iconst 4, 4, 0), (1146, .invokestatic 64, 0, 1391), (1149, .aload_n 1, 0, 0), (1150, .iload 17, 0, 0)]]
theorem qp_fx16 : ∀ (pc : Nat) (e : Instr × Int32 × Nat), qp_fb 64 qp_kM16 pc = some e → qp_ft8 qp_kL pc = some e := qp_wn_of (by decide +kernel)
def qp_kM17 : List (List (Nat × Instr × Int32 × Nat)) := [
  [(1090, .iload 23, 0, 0), (1092, .ifCond .ne 25, 0, 1117), (1095, .aload_n 1, 0, 0), (1096, .iload 22, 0, 0), (1098, .bipush 8, 8, 0), (1100, .idiv, 0, 0), (1101, .iload 22, 0, 0), (1103, .bipush 8, 8, 0)],
  [(1105, .irem, 0, 0), (1106, .invokevirtual 77, 0, 420), (1109, .iload 5, 0, 0), (1111, .iload 20, 0, 0), (1113, .iadd, 0, 0), (1114, .if_icmp .eq 5, 0, 1119), (1117, .iconst 0, 0, 0), (1118, .ireturn, 0, 0), (1119, .iinc 20 1, 1, 0)],
  [(1122, .goto (-101), 0, 1021), (1125, .aload_n 1, 0, 0), (1126, .iload 15, 0, 0), (1128, .bipush 6, 6, 0), (1130, .invokestatic 64, 0, 1391), (1133, .iload 16, 0, 0), (1135, .ishr, 0, 0)],
  [(1136, .iconst 1, 1, 0), (1137, .iand, 0, 0), (1138, .iconst 1, 1, 0), (1139, .if_icmp .ne 34, 0, 1173), (1142, .aload_n 1, 0, 0), (1143, .iload 17, 0, 0), (1145, .iconst 4, 4, 0), (1146, .invokestatic 64, 0, 1391), (1149, .aload_n 1, 0, 0), (1150, .iload 17, 0, 0)],
  [(1152, .iconst 3, 3, 0), (1153, .invokestatic 64, 0, 1391), (1156, .if_icmp .ne 17, 0, 1173), (1159, .aload_n 1, 0, 0), (1160, .iload 15, 0, 0), (1162, .iload 16, 0, 0), (1164, .iload 17, 0, 0), (1166, .iconst 5, 5, 0), (1167, .invokevirtual 92, 0, 750)],
  [(1170, .ifCond .eq 5, 0, 1175), (1173, .iconst 0, 0, 0), (1174, .ireturn, 0, 0), (1175, .aload_n 1, 0, 0), (1176, .iconst 0, 0, 0), (1177, .invokevirtual 89, 0, 610), (1180, .iload 4, 0, 0), (1182, .if_icmp .ne 19, 0, 1201)],
  [(1185, .aload_n 1, 0, 0), (1186, .iload 16, 0, 0), (1188, .iload 15, 0, 0), (1190, .iload 17, 0, 0), (1192, .iconst 5, 5, 0), (1193, .invokevirtual 92, 0, 750), (1196, .iload 18, 0, 0), (1198, .if_icmp .eq 5, 0, 1203)],
  [(1201, .iconst 0, 0, 0), (1202, .ireturn, 0, 0), (1203, .aload_n 0, 0, 0), (1204, .bipush 12, 12, 0), (1206, .invokestatic 9, 0, 1311), (1209, .bipush 9, 9, 0), (1211, .invokestatic 15, 0, 1321), (1214, .istore 15, 0, 0)]]
theorem qp_fx17 : ∀ (pc : Nat) (e : Instr × Int32 × Nat), qp_fb 68 qp_kM17 pc = some e → qp_ft8 qp_kL pc = some e := qp_wn_of (by decide +kernel)
def qp_kM18 : List (List (Nat × Instr × Int32 × Nat)) := [
  [(1152, .iconst 3, 3, 0), (1153, .invokestatic 64, 0, 1391), (1156, .if_icmp .ne 17, 0, 1173), (1159, .aload_n 1, 0, 0), (1160, .iload 15, 0, 0), (1162, .iload 16, 0, 0), (1164, .iload 17, 0, 0), (1166, .iconst 5, 5, 0), (1167, .invokevirtual 92, 0, 750)],
  [(1170, .ifCond .eq 5, 0, 1175), (1173, .iconst 0, 0, 0), (1174, .ireturn, 0, 0), (1175, .aload_n 1, 0, 0), (1176, .iconst 0, 0, 0), (1177, .invokevirtual 89, 0, 610), (1180, .iload 4, 0, 0), (1182, .if_icmp .ne 19, 0, 1201)],
  [(1185, .aload_n 1, 0, 0), (1186, .iload 16, 0, 0), (1188, .iload 15, 0, 0), (1190, .iload 17, 0, 0), (1192, .iconst 5, 5, 0), (1193, .invokevirtual 92, 0, 750), (1196, .iload 18, 0, 0), (1198, .if_icmp .eq 5, 0, 1203)],
  [(1201, .iconst 0, 0, 0), (1202, .ireturn, 0, 0), (1203, .aload_n 0, 0, 0), (1204, .bipush 12, 12, 0), (1206, .invokestatic 9, 0, 1311), (1209, .bipush 9, 9, 0), (1211, .invokestatic 15, 0, 1321), (1214, .istore 15, 0, 0)],
  [(1216, .aload_n 1, 0, 0), (1217, .iconst 3, 3, 0), (1218, .iconst 2, 2, 0), (1219, .iload 15, 0, 0), (1221, .imul, 0, 0), (1222, .invokevirtual 99, 0, 110), (1225, .iconst 2, 2, 0), (1226, .iload 15, 0, 0), (1228, .imul, 0, 0), (1229, .if_icmp .eq 5, 0, 1234)],
  [(1232, .iconst 0, 0, 0), (1233, .ireturn, 0, 0), (1234, .iconst 0, 0, 0), (1235, .istore 16, 0, 0), (1237, .iload 16, 0, 0), (1239, .iload 15, 0, 0), (1241, .if_icmp .ge 61, 0, 1302), (1244, .aload_n 0, 0, 0), (1245, .bipush 13, 13, 0), (1247, .iload 16, 0, 0)],
  [(1249, .iadd, 0, 0), (1250, .invokestatic 9, 0, 1311), (1253, .iload_n 3, 0, 0), (1254, .invokestatic 15, 0, 1321), (1257, .istore 17, 0, 0), (1259, .aload_n 1, 0, 0), (1260, .iconst 3, 3, 0), (1261, .iconst 2, 2, 0), (1262, .iload 16, 0, 0)],
  [(1264, .imul, 0, 0), (1265, .iload 17, 0, 0), (1267, .invokevirtual 102, 0, 180), (1270, .iconst 1, 1, 0), (1271, .if_icmp .ne 23, 0, 1294), (1274, .aload_n 1, 0, 0), (1275, .iconst 3, 3, 0), (1276, .iconst 2, 2, 0), (1277, .iload 16, 0, 0), (1279, .imul, 0, 0)]]
theorem qp_fx18 : ∀ (pc : Nat) (e : Instr × Int32 × Nat), qp_fb 72 qp_kM18 pc = some e → qp_ft8 qp_kL pc = some e := qp_wn_of (by decide +kernel)
def qp_kM19 : List (List (Nat × Instr × Int32 × Nat)) := [
  [(1216, .aload_n 1, 0, 0), (1217, .iconst 3, 3, 0), (1218, .iconst 2, 2, 0), (1219, .iload 15, 0, 0), (1221, .imul, 0, 0), (1222, .invokevirtual 99, 0, 110), (1225, .iconst 2, 2, 0), (1226, .iload 15, 0, 0), (1228, .imul, 0, 0), (1229, .if_icmp .eq 5, 0, 1234)],
  [(1232, .iconst 0, 0, 0), (1233, .ireturn, 0, 0), (1234, .iconst 0, 0, 0), (1235, .istore 16, 0, 0), (1237, .iload 16, 0, 0), (1239, .iload 15, 0, 0), (1241, .if_icmp .ge 61, 0, 1302), (1244, .aload_n 0, 0, 0), (1245, .bipush 13, 13, 0), (1247, .iload 16, 0, 0)],
  [(1249, .iadd, 0, 0), (1250, .invokestatic 9, 0, 1311), (1253, .iload_n 3, 0, 0), (1254, .invokestatic 15, 0, 1321), (1257, .istore 17, 0, 0), (1259, .aload_n 1, 0, 0), (1260, .iconst 3, 3, 0), (1261, .iconst 2, 2, 0), (1262, .iload 16, 0, 0)],
  [(1264, .imul, 0, 0), (1265, .iload 17, 0, 0), (1267, .invokevirtual 102, 0, 180), (1270, .iconst 1, 1, 0), (1271, .if_icmp .ne 23, 0, 1294), (1274, .aload_n 1, 0, 0), (1275, .iconst 3, 3, 0), (1276, .iconst 2, 2, 0), (1277, .iload 16, 0, 0), (1279, .imul, 0, 0)],
  [(1280, .iconst 1, 1, 0), (1281, .iadd, 0, 0), (1282, .aload 14, 0, 0), (1284, .iload 17, 0, 0), (1286, .iaload, 0, 0), (1287, .invokevirtual 102, 0, 180), (1290, .iconst 1, 1, 0), (1291, .if_icmp .eq 5, 0, 1296), (1294, .iconst 0, 0, 0), (1295, .ireturn, 0, 0)],
  [(1296, .iinc 16 1, 1, 0), (1299, .goto (-62), 0, 1237), (1302, .aload_n 1, 0, 0), (1303, .iconst 3, 3, 0), (1304, .invokevirtual 104, 0, 860), (1307, .iconst 1, 1, 0), (1308, .if_icmp .ne 32, 0, 1340), (1311, .aload_n 1, 0, 0)],
  [(1312, .invokevirtual 107, 0, 1190), (1315, .lconst 1, 0, 0), (1316, .lcmp, 0, 0), (1317, .ifCond .lt 23, 0, 1340), (1320, .aload_n 1, 0, 0), (1321, .invokevirtual 107, 0, 1190), (1324, .ldc2_w 111, 0, 0), (1327, .lcmp, 0, 0)],
  [(1328, .ifCond .gt 12, 0, 1340), (1331, .aload_n 1, 0, 0), (1332, .invokevirtual 113, 0, 1200), (1335, .lconst 1, 0, 0), (1336, .lcmp, 0, 0), (1337, .ifCond .eq 5, 0, 1342), (1340, .iconst 0, 0, 0), (1341, .ireturn, 0, 0), (1342, .aload_n 1, 0, 0), (1343, .invokevirtual 107, 0, 1190)]]
theorem qp_fx19 : ∀ (pc : Nat) (e : Instr × Int32 × Nat), qp_fb 76 qp_kM19 pc = some e → qp_ft8 qp_kL pc = some e := qp_wn_of (by decide +kernel)
def qp_kM20 : List (List (Nat × Instr × Int32 × Nat)) := [
  [(1280, .iconst 1, 1, 0), (1281, .iadd, 0, 0), (1282, .aload 14, 0, 0), (1284, .iload 17, 0, 0), (1286, .iaload, 0, 0), (1287, .invokevirtual 102, 0, 180), (1290, .iconst 1, 1, 0), (1291, .if_icmp .eq 5, 0, 1296), (1294, .iconst 0, 0, 0), (1295, .ireturn, 0, 0)],
  [(1296, .iinc 16 1, 1, 0), (1299, .goto (-62), 0, 1237), (1302, .aload_n 1, 0, 0), (1303, .iconst 3, 3, 0), (1304, .invokevirtual 104, 0, 860), (1307, .iconst 1, 1, 0), (1308, .if_icmp .ne 32, 0, 1340), (1311, .aload_n 1, 0, 0)],
  [(1312, .invokevirtual 107, 0, 1190), (1315, .lconst 1, 0, 0), (1316, .lcmp, 0, 0), (1317, .ifCond .lt 23, 0, 1340), (1320, .aload_n 1, 0, 0), (1321, .invokevirtual 107, 0, 1190), (1324, .ldc2_w 111, 0, 0), (1327, .lcmp, 0, 0)],
  [(1328, .ifCond .gt 12, 0, 1340), (1331, .aload_n 1, 0, 0), (1332, .invokevirtual 113, 0, 1200), (1335, .lconst 1, 0, 0), (1336, .lcmp, 0, 0), (1337, .ifCond .eq 5, 0, 1342), (1340, .iconst 0, 0, 0), (1341, .ireturn, 0, 0), (1342, .aload_n 1, 0, 0), (1343, .invokevirtual 107, 0, 1190)],
  [(1346, .lstore 16, 0, 0), (1348, .aload_n 1, 0, 0), (1349, .iconst 3, 3, 0), (1350, .invokevirtual 116, 0, 970), (1353, .istore 18, 0, 0), (1355, .aload_n 1, 0, 0), (1356, .invokevirtual 38, 0, 1180), (1359, .istore 19, 0, 0)],
  [(1361, .iload 18, 0, 0), (1363, .ifCond .lt 24, 0, 1387), (1366, .iload 18, 0, 0), (1368, .iload_n 3, 0, 0), (1369, .if_icmp .ge 18, 0, 1387), (1372, .iload 19, 0, 0), (1374, .iconst 1, 1, 0), (1375, .if_icmp .lt 12, 0, 1387)],
  [(1378, .iload 19, 0, 0), (1380, .i2l, 0, 0), (1381, .lload 16, 0, 0), (1383, .lcmp, 0, 0), (1384, .ifCond .le 5, 0, 1389), (1387, .iconst 0, 0, 0), (1388, .ireturn, 0, 0), (1389, .iconst 0, 0, 0), (1390, .istore 20, 0, 0)],
  [(1392, .iload 20, 0, 0), (1394, .iload_n 3, 0, 0), (1395, .if_icmp .ge 43, 0, 1438), (1398, .aload_n 1, 0, 0), (1399, .iconst 3, 3, 0), (1400, .iload 20, 0, 0), (1402, .invokevirtual 119, 0, 950), (1405, .aload 13, 0, 0), (1407, .iload 20, 0, 0)]]
theorem qp_fx20 : ∀ (pc : Nat) (e : Instr × Int32 × Nat), qp_fb 80 qp_kM20 pc = some e → qp_ft8 qp_kL pc = some e := qp_wn_of (by decide +kernel)
def qp_kM21 : List (List (Nat × Instr × Int32 × Nat)) := [
  [(1346, .lstore 16, 0, 0), (1348, .aload_n 1, 0, 0), (1349, .iconst 3, 3, 0), (1350, .invokevirtual 116, 0, 970), (1353, .istore 18, 0, 0), (1355, .aload_n 1, 0, 0), (1356, .invokevirtual 38, 0, 1180), (1359, .istore 19, 0, 0)],
  [(1361, .iload 18, 0, 0), (1363, .ifCond .lt 24, 0, 1387), (1366, .iload 18, 0, 0), (1368, .iload_n 3, 0, 0), (1369, .if_icmp .ge 18, 0, 1387), (1372, .iload 19, 0, 0), (1374, .iconst 1, 1, 0), (1375, .if_icmp .lt 12, 0, 1387)],
  [(1378, .iload 19, 0, 0), (1380, .i2l, 0, 0), (1381, .lload 16, 0, 0), (1383, .lcmp, 0, 0), (1384, .ifCond .le 5, 0, 1389), (1387, .iconst 0, 0, 0), (1388, .ireturn, 0, 0), (1389, .iconst 0, 0, 0), (1390, .istore 20, 0, 0)],
  [(1392, .iload 20, 0, 0), (1394, .iload_n 3, 0, 0), (1395, .if_icmp .ge 43, 0, 1438), (1398, .aload_n 1, 0, 0), (1399, .iconst 3, 3, 0), (1400, .iload 20, 0, 0), (1402, .invokevirtual 119, 0, 950), (1405, .aload 13, 0, 0), (1407, .iload 20, 0, 0)],
  [(1409, .iaload, 0, 0), (1410, .ishr, 0, 0), (1411, .iconst 1, 1, 0), (1412, .iand, 0, 0), (1413, .iconst 1, 1, 0), (1414, .if_icmp .ne 16, 0, 1430), (1417, .aload_n 1, 0, 0), (1418, .iconst 3, 3, 0), (1419, .iload 20, 0, 0), (1421, .invokevirtual 119, 0, 950)],
  [(1424, .iconst 1, 1, 0), (1425, .iload_n 3, 0, 0), (1426, .ishl, 0, 0), (1427, .if_icmp .lt 5, 0, 1432), (1430, .iconst 0, 0, 0), (1431, .ireturn, 0, 0), (1432, .iinc 20 1, 1, 0), (1435, .goto (-43), 0, 1392), (1438, .lconst 0, 0, 0), (1439, .lstore 20, 0, 0)],
  [(1441, .iconst 0, 0, 0), (1442, .istore 22, 0, 0), (1444, .iload 22, 0, 0), (1446, .bipush 19, 19, 0), (1448, .if_icmp .ge 209, 0, 1657), (1451, .aload_n 1, 0, 0), (1452, .iload 22, 0, 0), (1454, .invokevirtual 122, 0, 990)],
  [(1457, .istore 23, 0, 0), (1459, .aload_n 1, 0, 0), (1460, .invokevirtual 107, 0, 1190), (1463, .lstore 24, 0, 0), (1465, .aload_n 1, 0, 0), (1466, .invokevirtual 38, 0, 1180), (1469, .istore 26, 0, 0), (1471, .aload_n 1, 0, 0)]]
theorem qp_fx21 : ∀ (pc : Nat) (e : Instr × Int32 × Nat), qp_fb 84 qp_kM21 pc = some e → qp_ft8 qp_kL pc = some e := qp_wn_of (by decide +kernel)
def qp_kM22 : List (List (Nat × Instr × Int32 × Nat)) := [
  [(1409, .iaload, 0, 0), (1410, .ishr, 0, 0), (1411, .iconst 1, 1, 0), (1412, .iand, 0, 0), (1413, .iconst 1, 1, 0), (1414, .if_icmp .ne 16, 0, 1430), (1417, .aload_n 1, 0, 0), (1418, .iconst 3, 3, 0), (1419, .iload 20, 0, 0), (1421, .invokevirtual 119, 0, 950)],
  [(1424, .iconst 1, 1, 0), (1425, .iload_n 3, 0, 0), (1426, .ishl, 0, 0), (1427, .if_icmp .lt 5, 0, 1432), (1430, .iconst 0, 0, 0), (1431, .ireturn, 0, 0), (1432, .iinc 20 1, 1, 0), (1435, .goto (-43), 0, 1392), (1438, .lconst 0, 0, 0), (1439, .lstore 20, 0, 0)],
  [(1441, .iconst 0, 0, 0), (1442, .istore 22, 0, 0), (1444, .iload 22, 0, 0), (1446, .bipush 19, 19, 0), (1448, .if_icmp .ge 209, 0, 1657), (1451, .aload_n 1, 0, 0), (1452, .iload 22, 0, 0), (1454, .invokevirtual 122, 0, 990)],
  [(1457, .istore 23, 0, 0), (1459, .aload_n 1, 0, 0), (1460, .invokevirtual 107, 0, 1190), (1463, .lstore 24, 0, 0), (1465, .aload_n 1, 0, 0), (1466, .invokevirtual 38, 0, 1180), (1469, .istore 26, 0, 0), (1471, .aload_n 1, 0, 0)],
  [(1472, .iload 22, 0, 0), (1474, .invokevirtual 125, 0, 1010), (1477, .istore 27, 0, 0), (1479, .aload_n 1, 0, 0), (1480, .invokevirtual 38, 0, 1180), (1483, .istore 28, 0, 0), (1485, .iconst 0, 0, 0), (1486, .istore 29, 0, 0)],
  [(1488, .iconst 0, 0, 0), (1489, .istore 30, 0, 0), (1491, .iload 30, 0, 0), (1493, .iload_n 3, 0, 0), (1494, .if_icmp .ge 48, 0, 1542), (1497, .iload 29, 0, 0), (1499, .iload 26, 0, 0), (1501, .ifCond .le 31, 0, 1532)],
  [(1504, .iload 26, 0, 0), (1506, .aload 13, 0, 0), (1508, .iload 30, 0, 0), (1510, .iaload, 0, 0), (1511, .ishr, 0, 0), (1512, .iconst 1, 1, 0), (1513, .iand, 0, 0), (1514, .iconst 1, 1, 0), (1515, .if_icmp .ne 17, 0, 1532), (1518, .aload_n 1, 0, 0), (1519, .aload 13, 0, 0)],
  [(1521, .iload 30, 0, 0), (1523, .iaload, 0, 0), (1524, .iload 30, 0, 0), (1526, .invokevirtual 68, 0, 630), (1529, .goto 4, 0, 1533), (1532, .iconst 0, 0, 0), (1533, .iadd, 0, 0), (1534, .istore 29, 0, 0)]]
theorem qp_fx22 : ∀ (pc : Nat) (e : Instr × Int32 × Nat), qp_fb 88 qp_kM22 pc = some e → qp_ft8 qp_kL pc = some e := qp_wn_of (by decide +kernel)
def qp_kM23 : List (List (Nat × Instr × Int32 × Nat)) := [
  [(1472, .iload 22, 0, 0), (1474, .invokevirtual 125, 0, 1010), (1477, .istore 27, 0, 0), (1479, .aload_n 1, 0, 0), (1480, .invokevirtual 38, 0, 1180), (1483, .istore 28, 0, 0), (1485, .iconst 0, 0, 0), (1486, .istore 29, 0, 0)],
  [(1488, .iconst 0, 0, 0), (1489, .istore 30, 0, 0), (1491, .iload 30, 0, 0), (1493, .iload_n 3, 0, 0), (1494, .if_icmp .ge 48, 0, 1542), (1497, .iload 29, 0, 0), (1499, .iload 26, 0, 0), (1501, .ifCond .le 31, 0, 1532)],
  [(1504, .iload 26, 0, 0), (1506, .aload 13, 0, 0), (1508, .iload 30, 0, 0), (1510, .iaload, 0, 0), (1511, .ishr, 0, 0), (1512, .iconst 1, 1, 0), (1513, .iand, 0, 0), (1514, .iconst 1, 1, 0), (1515, .if_icmp .ne 17, 0, 1532), (1518, .aload_n 1, 0, 0), (1519, .aload 13, 0, 0)],
  [(1521, .iload 30, 0, 0), (1523, .iaload, 0, 0), (1524, .iload 30, 0, 0), (1526, .invokevirtual 68, 0, 630), (1529, .goto 4, 0, 1533), (1532, .iconst 0, 0, 0), (1533, .iadd, 0, 0), (1534, .istore 29, 0, 0)],
  [(1536, .iinc 30 1, 1, 0), (1539, .goto (-48), 0, 1491), (1542, .lload 20, 0, 0), (1544, .lload 24, 0, 0), (1546, .ladd, 0, 0), (1547, .lstore 20, 0, 0), (1549, .iload 23, 0, 0), (1551, .iconst 1, 1, 0)],
  [(1552, .if_icmp .ne 97, 0, 1649), (1555, .lload 24, 0, 0), (1557, .lconst 0, 0, 0), (1558, .lcmp, 0, 0), (1559, .ifCond .ne 7, 0, 1566), (1562, .iconst 1, 1, 0), (1563, .goto 4, 0, 1567), (1566, .iconst 0, 0, 0), (1567, .iload 26, 0, 0)],
  [(1569, .bipush (-9), (-9), 0), (1571, .if_icmp .ne 7, 0, 1578), (1574, .iconst 1, 1, 0), (1575, .goto 4, 0, 1579), (1578, .iconst 0, 0, 0), (1579, .if_icmp .ne 70, 0, 1649), (1582, .lload 24, 0, 0)],
  [(1584, .lconst 0, 0, 0), (1585, .lcmp, 0, 0), (1586, .ifCond .ne 7, 0, 1593), (1589, .iconst 1, 1, 0), (1590, .goto 4, 0, 1594), (1593, .iconst 0, 0, 0), (1594, .iload 27, 0, 0), (1596, .bipush (-3), (-3), 0), (1598, .if_icmp .ne 7, 0, 1605)]]
theorem qp_fx23 : ∀ (pc : Nat) (e : Instr × Int32 × Nat), qp_fb 92 qp_kM23 pc = some e → qp_ft8 qp_kL pc = some e := qp_wn_of (by decide +kernel)
def qp_kM24 : List (List (Nat × Instr × Int32 × Nat)) := [
  [(1536, .iinc 30 1, 1, 0), (1539, .goto (-48), 0, 1491), (1542, .lload 20, 0, 0), (1544, .lload 24, 0, 0), (1546, .ladd, 0, 0), (1547, .lstore 20, 0, 0), (1549, .iload 23, 0, 0), (1551, .iconst 1, 1, 0)],
  [(1552, .if_icmp .ne 97, 0, 1649), (1555, .lload 24, 0, 0), (1557, .lconst 0, 0, 0), (1558, .lcmp, 0, 0), (1559, .ifCond .ne 7, 0, 1566), (1562, .iconst 1, 1, 0), (1563, .goto 4, 0, 1567), (1566, .iconst 0, 0, 0), (1567, .iload 26, 0, 0)],
  [(1569, .bipush (-9), (-9), 0), (1571, .if_icmp .ne 7, 0, 1578), (1574, .iconst 1, 1, 0), (1575, .goto 4, 0, 1579), (1578, .iconst 0, 0, 0), (1579, .if_icmp .ne 70, 0, 1649), (1582, .lload 24, 0, 0)],
  [(1584, .lconst 0, 0, 0), (1585, .lcmp, 0, 0), (1586, .ifCond .ne 7, 0, 1593), (1589, .iconst 1, 1, 0), (1590, .goto 4, 0, 1594), (1593, .iconst 0, 0, 0), (1594, .iload 27, 0, 0), (1596, .bipush (-3), (-3), 0), (1598, .if_icmp .ne 7, 0, 1605)],
  [(1601, .iconst 1, 1, 0), (1602, .goto 4, 0, 1606), (1605, .iconst 0, 0, 0), (1606, .if_icmp .ne 43, 0, 1649), (1609, .lload 24, 0, 0), (1611, .lconst 0, 0, 0), (1612, .lcmp, 0, 0), (1613, .ifCond .le 38, 0, 1651)],
  [(1616, .iload 29, 0, 0), (1618, .iload 22, 0, 0), (1620, .if_icmp .ne 29, 0, 1649), (1623, .iload 27, 0, 0), (1625, .iload 26, 0, 0), (1627, .iconst (-1), (-1), 0), (1628, .ixor, 0, 0), (1629, .iand, 0, 0), (1630, .ifCond .ne 19, 0, 1649)],
  [(1633, .iload 28, 0, 0), (1635, .iload 26, 0, 0), (1637, .iand, 0, 0), (1638, .ifCond .ne 11, 0, 1649), (1641, .iload 27, 0, 0), (1643, .iload 28, 0, 0), (1645, .iand, 0, 0), (1646, .ifCond .eq 5, 0, 1651)],
  [(1649, .iconst 0, 0, 0), (1650, .ireturn, 0, 0), (1651, .iinc 22 1, 1, 0), (1654, .goto (-210), 0, 1444), (1657, .lload 20, 0, 0), (1659, .lconst 1, 0, 0), (1660, .iload_n 3, 0, 0), (1661, .lshl, 0, 0), (1662, .lcmp, 0, 0), (1663, .ifCond .eq 5, 0, 1668)]]
theorem qp_fx24 : ∀ (pc : Nat) (e : Instr × Int32 × Nat), qp_fb 96 qp_kM24 pc = some e → qp_ft8 qp_kL pc = some e := qp_wn_of (by decide +kernel)
def qp_kM25 : List (List (Nat × Instr × Int32 × Nat)) := [
  [(1601, .iconst 1, 1, 0), (1602, .goto 4, 0, 1606), (1605, .iconst 0, 0, 0), (1606, .if_icmp .ne 43, 0, 1649), (1609, .lload 24, 0, 0), (1611, .lconst 0, 0, 0), (1612, .lcmp, 0, 0), (1613, .ifCond .le 38, 0, 1651)],
  [(1616, .iload 29, 0, 0), (1618, .iload 22, 0, 0), (1620, .if_icmp .ne 29, 0, 1649), (1623, .iload 27, 0, 0), (1625, .iload 26, 0, 0), (1627, .iconst (-1), (-1), 0), (1628, .ixor, 0, 0), (1629, .iand, 0, 0), (1630, .ifCond .ne 19, 0, 1649)],
  [(1633, .iload 28, 0, 0), (1635, .iload 26, 0, 0), (1637, .iand, 0, 0), (1638, .ifCond .ne 11, 0, 1649), (1641, .iload 27, 0, 0), (1643, .iload 28, 0, 0), (1645, .iand, 0, 0), (1646, .ifCond .eq 5, 0, 1651)],
  [(1649, .iconst 0, 0, 0), (1650, .ireturn, 0, 0), (1651, .iinc 22 1, 1, 0), (1654, .goto (-210), 0, 1444), (1657, .lload 20, 0, 0), (1659, .lconst 1, 0, 0), (1660, .iload_n 3, 0, 0), (1661, .lshl, 0, 0), (1662, .lcmp, 0, 0), (1663, .ifCond .eq 5, 0, 1668)],
  [(1666, .iconst 0, 0, 0), (1667, .ireturn, 0, 0), (1668, .iload_n 3, 0, 0), (1669, .iconst 1, 1, 0), (1670, .if_icmp .le 60, 0, 1730), (1673, .aload_n 1, 0, 0), (1674, .iconst 0, 0, 0), (1675, .iconst 1, 1, 0), (1676, .iconst 0, 0, 0), (1677, .invokevirtual 128, 0, 1020)],
  [(1680, .iconst 1, 1, 0), (1681, .if_icmp .ne 47, 0, 1728), (1684, .aload_n 1, 0, 0), (1685, .invokevirtual 38, 0, 1180), (1688, .aload 14, 0, 0), (1690, .iconst 0, 0, 0), (1691, .iaload, 0, 0), (1692, .aload 14, 0, 0), (1694, .iconst 1, 1, 0), (1695, .iaload, 0, 0)],
  [(1696, .isub, 0, 0), (1697, .if_icmp .ne 31, 0, 1728), (1700, .aload_n 1, 0, 0), (1701, .iconst 0, 0, 0), (1702, .iconst 1, 1, 0), (1703, .iconst 1, 1, 0), (1704, .invokevirtual 128, 0, 1020), (1707, .iconst 1, 1, 0), (1708, .if_icmp .ne 20, 0, 1728), (1711, .aload_n 1, 0, 0)],
  [(1712, .invokevirtual 38, 0, 1180), (1715, .iconst 3, 3, 0), (1716, .if_icmp .gt 12, 0, 1728), (1719, .aload_n 1, 0, 0), (1720, .invokevirtual 38, 0, 1180), (1723, .bipush (-3), (-3), 0), (1725, .if_icmp .ge 5, 0, 1730)]]
theorem qp_fx25 : ∀ (pc : Nat) (e : Instr × Int32 × Nat), qp_fb 100 qp_kM25 pc = some e → qp_ft8 qp_kL pc = some e := qp_wn_of (by decide +kernel)
def qp_kM26 : List (List (Nat × Instr × Int32 × Nat)) := [
  [(1666, .iconst 0, 0, 0), (1667, .ireturn, 0, 0), (1668, .iload_n 3, 0, 0), (1669, .iconst 1, 1, 0), (1670, .if_icmp .le 60, 0, 1730), (1673, .aload_n 1, 0, 0), (1674, .iconst 0, 0, 0), (1675, .iconst 1, 1, 0), (1676, .iconst 0, 0, 0), (1677, .invokevirtual 128, 0, 1020)],
  [(1680, .iconst 1, 1, 0), (1681, .if_icmp .ne 47, 0, 1728), (1684, .aload_n 1, 0, 0), (1685, .invokevirtual 38, 0, 1180), (1688, .aload 14, 0, 0), (1690, .iconst 0, 0, 0), (1691, .iaload, 0, 0), (1692, .aload 14, 0, 0), (1694, .iconst 1, 1, 0), (1695, .iaload, 0, 0)],
  [(1696, .isub, 0, 0), (1697, .if_icmp .ne 31, 0, 1728), (1700, .aload_n 1, 0, 0), (1701, .iconst 0, 0, 0), (1702, .iconst 1, 1, 0), (1703, .iconst 1, 1, 0), (1704, .invokevirtual 128, 0, 1020), (1707, .iconst 1, 1, 0), (1708, .if_icmp .ne 20, 0, 1728), (1711, .aload_n 1, 0, 0)],
  [(1712, .invokevirtual 38, 0, 1180), (1715, .iconst 3, 3, 0), (1716, .if_icmp .gt 12, 0, 1728), (1719, .aload_n 1, 0, 0), (1720, .invokevirtual 38, 0, 1180), (1723, .bipush (-3), (-3), 0), (1725, .if_icmp .ge 5, 0, 1730)],
  [(1728, .iconst 0, 0, 0), (1729, .ireturn, 0, 0), (1730, .aload_n 0, 0, 0), (1731, .bipush 21, 21, 0), (1733, .invokestatic 9, 0, 1311), (1736, .iload_n 3, 0, 0), (1737, .invokestatic 15, 0, 1321), (1740, .istore 22, 0, 0), (1742, .aload_n 0, 0, 0), (1743, .bipush 22, 22, 0)],
  [(1745, .invokestatic 9, 0, 1311), (1748, .bipush 13, 13, 0), (1750, .invokestatic 15, 0, 1321), (1753, .istore 23, 0, 0), (1755, .aload_n 1, 0, 0), (1756, .iload 22, 0, 0), (1758, .iconst 0, 0, 0), (1759, .invokevirtual 131, 0, 1060)],
  [(1762, .iconst 1, 1, 0), (1763, .if_icmp .ne 170, 0, 1933), (1766, .aload_n 1, 0, 0), (1767, .invokevirtual 107, 0, 1190), (1770, .iload 9, 0, 0), (1772, .iload 22, 0, 0), (1774, .ishr, 0, 0), (1775, .iconst 1, 1, 0)],
  [(1776, .iand, 0, 0), (1777, .i2l, 0, 0), (1778, .lcmp, 0, 0), (1779, .ifCond .ne 154, 0, 1933), (1782, .aload_n 1, 0, 0), (1783, .invokevirtual 113, 0, 1200), (1786, .lconst 1, 0, 0), (1787, .lcmp, 0, 0), (1788, .ifCond .ne 145, 0, 1933), (1791, .aload_n 1, 0, 0)]]
theorem qp_fx26 : ∀ (pc : Nat) (e : Instr × Int32 × Nat), qp_fb 104 qp_kM26 pc = some e → qp_ft8 qp_kL pc = some e := qp_wn_of (by decide +kernel)
def qp_kM27 : List (List (Nat × Instr × Int32 × Nat)) := [
  [(1728, .iconst 0, 0, 0), (1729, .ireturn, 0, 0), (1730, .aload_n 0, 0, 0), (1731, .bipush 21, 21, 0), (1733, .invokestatic 9, 0, 1311), (1736, .iload_n 3, 0, 0), (1737, .invokestatic 15, 0, 1321), (1740, .istore 22, 0, 0), (1742, .aload_n 0, 0, 0), (1743, .bipush 22, 22, 0)],
  [(1745, .invokestatic 9, 0, 1311), (1748, .bipush 13, 13, 0), (1750, .invokestatic 15, 0, 1321), (1753, .istore 23, 0, 0), (1755, .aload_n 1, 0, 0), (1756, .iload 22, 0, 0), (1758, .iconst 0, 0, 0), (1759, .invokevirtual 131, 0, 1060)],
  [(1762, .iconst 1, 1, 0), (1763, .if_icmp .ne 170, 0, 1933), (1766, .aload_n 1, 0, 0), (1767, .invokevirtual 107, 0, 1190), (1770, .iload 9, 0, 0), (1772, .iload 22, 0, 0), (1774, .ishr, 0, 0), (1775, .iconst 1, 1, 0)],
  [(1776, .iand, 0, 0), (1777, .i2l, 0, 0), (1778, .lcmp, 0, 0), (1779, .ifCond .ne 154, 0, 1933), (1782, .aload_n 1, 0, 0), (1783, .invokevirtual 113, 0, 1200), (1786, .lconst 1, 0, 0), (1787, .lcmp, 0, 0), (1788, .ifCond .ne 145, 0, 1933), (1791, .aload_n 1, 0, 0)],
  [(1792, .iload 22, 0, 0), (1794, .bipush 12, 12, 0), (1796, .invokevirtual 131, 0, 1060), (1799, .iconst 1, 1, 0), (1800, .if_icmp .ne 133, 0, 1933), (1803, .aload_n 1, 0, 0), (1804, .invokevirtual 107, 0, 1190), (1807, .lconst 0, 0, 0)],
  [(1808, .lcmp, 0, 0), (1809, .ifCond .ne 124, 0, 1933), (1812, .aload_n 1, 0, 0), (1813, .iload 22, 0, 0), (1815, .iload 23, 0, 0), (1817, .invokevirtual 131, 0, 1060), (1820, .iconst 1, 1, 0), (1821, .if_icmp .ne 112, 0, 1933)],
  [(1824, .aload_n 1, 0, 0), (1825, .invokevirtual 107, 0, 1190), (1828, .lconst 0, 0, 0), (1829, .lcmp, 0, 0), (1830, .ifCond .lt 103, 0, 1933), (1833, .aload_n 1, 0, 0), (1834, .invokevirtual 107, 0, 1190), (1837, .aload_n 1, 0, 0), (1838, .invokevirtual 113, 0, 1200)],
  [(1841, .lcmp, 0, 0), (1842, .ifCond .gt 91, 0, 1933), (1845, .aload_n 1, 0, 0), (1846, .iconst 0, 0, 0), (1847, .invokevirtual 134, 0, 1120), (1850, .iconst 1, 1, 0), (1851, .if_icmp .ne 82, 0, 1933), (1854, .aload_n 1, 0, 0), (1855, .invokevirtual 107, 0, 1190)]]
theorem qp_fx27 : ∀ (pc : Nat) (e : Instr × Int32 × Nat), qp_fb 108 qp_kM27 pc = some e → qp_ft8 qp_kL pc = some e := qp_wn_of (by decide +kernel)
def qp_kM28 : List (List (Nat × Instr × Int32 × Nat)) := [
  [(1792, .iload 22, 0, 0), (1794, .bipush 12, 12, 0), (1796, .invokevirtual 131, 0, 1060), (1799, .iconst 1, 1, 0), (1800, .if_icmp .ne 133, 0, 1933), (1803, .aload_n 1, 0, 0), (1804, .invokevirtual 107, 0, 1190), (1807, .lconst 0, 0, 0)],
  [(1808, .lcmp, 0, 0), (1809, .ifCond .ne 124, 0, 1933), (1812, .aload_n 1, 0, 0), (1813, .iload 22, 0, 0), (1815, .iload 23, 0, 0), (1817, .invokevirtual 131, 0, 1060), (1820, .iconst 1, 1, 0), (1821, .if_icmp .ne 112, 0, 1933)],
  [(1824, .aload_n 1, 0, 0), (1825, .invokevirtual 107, 0, 1190), (1828, .lconst 0, 0, 0), (1829, .lcmp, 0, 0), (1830, .ifCond .lt 103, 0, 1933), (1833, .aload_n 1, 0, 0), (1834, .invokevirtual 107, 0, 1190), (1837, .aload_n 1, 0, 0), (1838, .invokevirtual 113, 0, 1200)],
  [(1841, .lcmp, 0, 0), (1842, .ifCond .gt 91, 0, 1933), (1845, .aload_n 1, 0, 0), (1846, .iconst 0, 0, 0), (1847, .invokevirtual 134, 0, 1120), (1850, .iconst 1, 1, 0), (1851, .if_icmp .ne 82, 0, 1933), (1854, .aload_n 1, 0, 0), (1855, .invokevirtual 107, 0, 1190)],
  [(1858, .iload 6, 0, 0), (1860, .iload 8, 0, 0), (1862, .isub, 0, 0), (1863, .i2l, 0, 0), (1864, .lcmp, 0, 0), (1865, .ifCond .ne 68, 0, 1933), (1868, .aload_n 1, 0, 0), (1869, .invokevirtual 113, 0, 1200)],
  [(1872, .lconst 1, 0, 0), (1873, .lcmp, 0, 0), (1874, .ifCond .ne 59, 0, 1933), (1877, .aload_n 1, 0, 0), (1878, .bipush 12, 12, 0), (1880, .invokevirtual 134, 0, 1120), (1883, .iconst 1, 1, 0), (1884, .if_icmp .ne 49, 0, 1933), (1887, .aload_n 1, 0, 0)],
  [(1888, .invokevirtual 107, 0, 1190), (1891, .iload 6, 0, 0), (1893, .i2l, 0, 0), (1894, .lcmp, 0, 0), (1895, .ifCond .ne 38, 0, 1933), (1898, .aload_n 1, 0, 0), (1899, .iload 23, 0, 0), (1901, .invokevirtual 134, 0, 1120)],
  [(1904, .iconst 1, 1, 0), (1905, .if_icmp .ne 28, 0, 1933), (1908, .aload_n 1, 0, 0), (1909, .invokevirtual 107, 0, 1190), (1912, .iload 6, 0, 0), (1914, .i2l, 0, 0), (1915, .aload_n 1, 0, 0), (1916, .invokevirtual 113, 0, 1200), (1919, .lmul, 0, 0)]]
theorem qp_fx28 : ∀ (pc : Nat) (e : Instr × Int32 × Nat), qp_fb 112 qp_kM28 pc = some e → qp_ft8 qp_kL pc = some e := qp_wn_of (by decide +kernel)
def qp_kM29 : List (List (Nat × Instr × Int32 × Nat)) := [
  [(1858, .iload 6, 0, 0), (1860, .iload 8, 0, 0), (1862, .isub, 0, 0), (1863, .i2l, 0, 0), (1864, .lcmp, 0, 0), (1865, .ifCond .ne 68, 0, 1933), (1868, .aload_n 1, 0, 0), (1869, .invokevirtual 113, 0, 1200)],
  [(1872, .lconst 1, 0, 0), (1873, .lcmp, 0, 0), (1874, .ifCond .ne 59, 0, 1933), (1877, .aload_n 1, 0, 0), (1878, .bipush 12, 12, 0), (1880, .invokevirtual 134, 0, 1120), (1883, .iconst 1, 1, 0), (1884, .if_icmp .ne 49, 0, 1933), (1887, .aload_n 1, 0, 0)],
  [(1888, .invokevirtual 107, 0, 1190), (1891, .iload 6, 0, 0), (1893, .i2l, 0, 0), (1894, .lcmp, 0, 0), (1895, .ifCond .ne 38, 0, 1933), (1898, .aload_n 1, 0, 0), (1899, .iload 23, 0, 0), (1901, .invokevirtual 134, 0, 1120)],
  [(1904, .iconst 1, 1, 0), (1905, .if_icmp .ne 28, 0, 1933), (1908, .aload_n 1, 0, 0), (1909, .invokevirtual 107, 0, 1190), (1912, .iload 6, 0, 0), (1914, .i2l, 0, 0), (1915, .aload_n 1, 0, 0), (1916, .invokevirtual 113, 0, 1200), (1919, .lmul, 0, 0)],
  [(1920, .lcmp, 0, 0), (1921, .ifCond .gt 12, 0, 1933), (1924, .aload_n 1, 0, 0), (1925, .invokevirtual 107, 0, 1190), (1928, .lconst 0, 0, 0), (1929, .lcmp, 0, 0), (1930, .ifCond .ge 5, 0, 1935), (1933, .iconst 0, 0, 0), (1934, .ireturn, 0, 0), (1935, .aload_n 0, 0, 0)],
  [(1936, .bipush 23, 23, 0), (1938, .invokestatic 9, 0, 1311), (1941, .bipush 15, 15, 0), (1943, .invokestatic 15, 0, 1321), (1946, .istore 24, 0, 0), (1948, .bipush 16, 16, 0), (1950, .newarray .int, 0, 0)],
  [(1952, .astore 25, 0, 0), (1954, .bipush 16, 16, 0), (1956, .newarray .int, 0, 0), (1958, .astore 26, 0, 0), (1960, .iconst 0, 0, 0), (1961, .istore 27, 0, 0), (1963, .aload 25, 0, 0), (1965, .iconst 0, 0, 0), (1966, .aload_n 1, 0, 0), (1967, .iconst 0, 0, 0)],
  [(1968, .invokevirtual 61, 0, 620), (1971, .iastore, 0, 0), (1972, .aload 26, 0, 0), (1974, .iconst 0, 0, 0), (1975, .iload 8, 0, 0), (1977, .iastore, 0, 0), (1978, .iconst 0, 0, 0), (1979, .istore 28, 0, 0), (1981, .iload 28, 0, 0), (1983, .iload 24, 0, 0)]]
theorem qp_fx29 : ∀ (pc : Nat) (e : Instr × Int32 × Nat), qp_fb 116 qp_kM29 pc = some e → qp_ft8 qp_kL pc = some e := qp_wn_of (by decide +kernel)
def qp_kM30 : List (List (Nat × Instr × Int32 × Nat)) := [
  [(1920, .lcmp, 0, 0), (1921, .ifCond .gt 12, 0, 1933), (1924, .aload_n 1, 0, 0), (1925, .invokevirtual 107, 0, 1190), (1928, .lconst 0, 0, 0), (1929, .lcmp, 0, 0), (1930, .ifCond .ge 5, 0, 1935), (1933, .iconst 0, 0, 0), (1934, .ireturn, 0, 0), (1935, .aload_n 0, 0, 0)],
  [(1936, .bipush 23, 23, 0), (1938, .invokestatic 9, 0, 1311), (1941, .bipush 15, 15, 0), (1943, .invokestatic 15, 0, 1321), (1946, .istore 24, 0, 0), (1948, .bipush 16, 16, 0), (1950, .newarray .int, 0, 0)],
  [(1952, .astore 25, 0, 0), (1954, .bipush 16, 16, 0), (1956, .newarray .int, 0, 0), (1958, .astore 26, 0, 0), (1960, .iconst 0, 0, 0), (1961, .istore 27, 0, 0), (1963, .aload 25, 0, 0), (1965, .iconst 0, 0, 0), (1966, .aload_n 1, 0, 0), (1967, .iconst 0, 0, 0)],
  [(1968, .invokevirtual 61, 0, 620), (1971, .iastore, 0, 0), (1972, .aload 26, 0, 0), (1974, .iconst 0, 0, 0), (1975, .iload 8, 0, 0), (1977, .iastore, 0, 0), (1978, .iconst 0, 0, 0), (1979, .istore 28, 0, 0), (1981, .iload 28, 0, 0), (1983, .iload 24, 0, 0)],
  [(1985, .if_icmp .ge 176, 0, 2161), (1988, .aload_n 0, 0, 0), (1989, .bipush 24, 24, 0), (1991, .iload 28, 0, 0), (1993, .iadd, 0, 0), (1994, .invokestatic 9, 0, 1311), (1997, .istore 29, 0, 0), (1999, .iload 29, 0, 0)],
  [(2001, .iconst 4, 4, 0), (2002, .invokestatic 15, 0, 1321), (2005, .istore 30, 0, 0), (2007, .iload 30, 0, 0), (2009, .iconst 2, 2, 0), (2010, .if_icmp .ge 26, 0, 2036), (2013, .aload_n 1, 0, 0), (2014, .iload 29, 0, 0)],
  [(2016, .iconst 2, 2, 0), (2017, .ishr, 0, 0), (2018, .iload_n 3, 0, 0), (2019, .invokestatic 15, 0, 1321), (2022, .iload 29, 0, 0), (2024, .iconst 5, 5, 0), (2025, .ishr, 0, 0), (2026, .iload_n 3, 0, 0), (2027, .invokestatic 15, 0, 1321), (2030, .invokevirtual 77, 0, 420)],
  [(2033, .goto 56, 0, 2089), (2036, .iload 30, 0, 0), (2038, .iconst 2, 2, 0), (2039, .if_icmp .ne 36, 0, 2075), (2042, .aload_n 1, 0, 0), (2043, .iconst 2, 2, 0), (2044, .invokevirtual 55, 0, 1210), (2047, .ifCond .ne 8, 0, 2055)]]
theorem qp_fx30 : ∀ (pc : Nat) (e : Instr × Int32 × Nat), qp_fb 120 qp_kM30 pc = some e → qp_ft8 qp_kL pc = some e := qp_wn_of (by decide +kernel)
def qp_kM31 : List (List (Nat × Instr × Int32 × Nat)) := [
  [(1985, .if_icmp .ge 176, 0, 2161), (1988, .aload_n 0, 0, 0), (1989, .bipush 24, 24, 0), (1991, .iload 28, 0, 0), (1993, .iadd, 0, 0), (1994, .invokestatic 9, 0, 1311), (1997, .istore 29, 0, 0), (1999, .iload 29, 0, 0)],
  [(2001, .iconst 4, 4, 0), (2002, .invokestatic 15, 0, 1321), (2005, .istore 30, 0, 0), (2007, .iload 30, 0, 0), (2009, .iconst 2, 2, 0), (2010, .if_icmp .ge 26, 0, 2036), (2013, .aload_n 1, 0, 0), (2014, .iload 29, 0, 0)],
  [(2016, .iconst 2, 2, 0), (2017, .ishr, 0, 0), (2018, .iload_n 3, 0, 0), (2019, .invokestatic 15, 0, 1321), (2022, .iload 29, 0, 0), (2024, .iconst 5, 5, 0), (2025, .ishr, 0, 0), (2026, .iload_n 3, 0, 0), (2027, .invokestatic 15, 0, 1321), (2030, .invokevirtual 77, 0, 420)],
  [(2033, .goto 56, 0, 2089), (2036, .iload 30, 0, 0), (2038, .iconst 2, 2, 0), (2039, .if_icmp .ne 36, 0, 2075), (2042, .aload_n 1, 0, 0), (2043, .iconst 2, 2, 0), (2044, .invokevirtual 55, 0, 1210), (2047, .ifCond .ne 8, 0, 2055)],
  [(2050, .bipush (-4), (-4), 0), (2052, .goto 37, 0, 2089), (2055, .aload_n 1, 0, 0), (2056, .iload 29, 0, 0), (2058, .bipush 8, 8, 0), (2060, .ishr, 0, 0), (2061, .aload_n 1, 0, 0), (2062, .iconst 2, 2, 0), (2063, .invokevirtual 55, 0, 1210)],
  [(2066, .invokestatic 15, 0, 1321), (2069, .invokevirtual 86, 0, 540), (2072, .goto 17, 0, 2089), (2075, .aload_n 1, 0, 0), (2076, .iload 29, 0, 0), (2078, .bipush 8, 8, 0)],
  [(2080, .ishr, 0, 0), (2081, .bipush 21, 21, 0), (2083, .invokestatic 15, 0, 1321), (2086, .invokevirtual 137, 0, 560), (2089, .istore 31, 0, 0), (2091, .iload 31, 0, 0), (2093, .bipush (-4), (-4), 0), (2095, .if_icmp .eq 26, 0, 2121)],
  [(2098, .iinc 27 1, 1, 0), (2101, .aload 25, 0, 0), (2103, .iload 27, 0, 0), (2105, .aload_n 1, 0, 0), (2106, .iconst 0, 0, 0), (2107, .invokevirtual 61, 0, 620), (2110, .iastore, 0, 0), (2111, .aload 26, 0, 0)]]
theorem qp_fx31 : ∀ (pc : Nat) (e : Instr × Int32 × Nat), qp_fb 124 qp_kM31 pc = some e → qp_ft8 qp_kL pc = some e := qp_wn_of (by decide +kernel)
def qp_kM32 : List (List (Nat × Instr × Int32 × Nat)) := [
  [(2050, .bipush (-4), (-4), 0), (2052, .goto 37, 0, 2089), (2055, .aload_n 1, 0, 0), (2056, .iload 29, 0, 0), (2058, .bipush 8, 8, 0), (2060, .ishr, 0, 0), (2061, .aload_n 1, 0, 0), (2062, .iconst 2, 2, 0), (2063, .invokevirtual 55, 0, 1210)],
  [(2066, .invokestatic 15, 0, 1321), (2069, .invokevirtual 86, 0, 540), (2072, .goto 17, 0, 2089), (2075, .aload_n 1, 0, 0), (2076, .iload 29, 0, 0), (2078, .bipush 8, 8, 0)],
  [(2080, .ishr, 0, 0), (2081, .bipush 21, 21, 0), (2083, .invokestatic 15, 0, 1321), (2086, .invokevirtual 137, 0, 560), (2089, .istore 31, 0, 0), (2091, .iload 31, 0, 0), (2093, .bipush (-4), (-4), 0), (2095, .if_icmp .eq 26, 0, 2121)],
  [(2098, .iinc 27 1, 1, 0), (2101, .aload 25, 0, 0), (2103, .iload 27, 0, 0), (2105, .aload_n 1, 0, 0), (2106, .iconst 0, 0, 0), (2107, .invokevirtual 61, 0, 620), (2110, .iastore, 0, 0), (2111, .aload 26, 0, 0)],
  [(2113, .iload 27, 0, 0), (2115, .aload_n 1, 0, 0), (2116, .iconst 5, 5, 0), (2117, .invokevirtual 55, 0, 1210), (2120, .iastore, 0, 0), (2121, .iload 31, 0, 0), (2123, .bipush (-4), (-4), 0), (2125, .if_icmp .lt 28, 0, 2153)],
  [(2128, .iload 31, 0, 0), (2130, .bipush (-4), (-4), 0), (2132, .if_icmp .le 8, 0, 2140), (2135, .iload 31, 0, 0), (2137, .ifCond .lt 16, 0, 2153), (2140, .aload_n 1, 0, 0), (2141, .iconst 3, 3, 0), (2142, .invokevirtual 55, 0, 1210)],
  [(2145, .iload 4, 0, 0), (2147, .iload 27, 0, 0), (2149, .iadd, 0, 0), (2150, .if_icmp .eq 5, 0, 2155), (2153, .iconst 0, 0, 0), (2154, .ireturn, 0, 0), (2155, .iinc 28 1, 1, 0), (2158, .goto (-177), 0, 1981)],
  [(2161, .iload 27, 0, 0), (2163, .istore 28, 0, 0), (2165, .iload 28, 0, 0), (2167, .ifCond .lt 61, 0, 2228), (2170, .aload_n 1, 0, 0), (2171, .iload 4, 0, 0), (2173, .iload 28, 0, 0), (2175, .iadd, 0, 0)]]
theorem qp_fx32 : ∀ (pc : Nat) (e : Instr × Int32 × Nat), qp_fb 128 qp_kM32 pc = some e → qp_ft8 qp_kL pc = some e := qp_wn_of (by decide +kernel)
def qp_kM33 : List (List (Nat × Instr × Int32 × Nat)) := [
  [(2113, .iload 27, 0, 0), (2115, .aload_n 1, 0, 0), (2116, .iconst 5, 5, 0), (2117, .invokevirtual 55, 0, 1210), (2120, .iastore, 0, 0), (2121, .iload 31, 0, 0), (2123, .bipush (-4), (-4), 0), (2125, .if_icmp .lt 28, 0, 2153)],
  [(2128, .iload 31, 0, 0), (2130, .bipush (-4), (-4), 0), (2132, .if_icmp .le 8, 0, 2140), (2135, .iload 31, 0, 0), (2137, .ifCond .lt 16, 0, 2153), (2140, .aload_n 1, 0, 0), (2141, .iconst 3, 3, 0), (2142, .invokevirtual 55, 0, 1210)],
  [(2145, .iload 4, 0, 0), (2147, .iload 27, 0, 0), (2149, .iadd, 0, 0), (2150, .if_icmp .eq 5, 0, 2155), (2153, .iconst 0, 0, 0), (2154, .ireturn, 0, 0), (2155, .iinc 28 1, 1, 0), (2158, .goto (-177), 0, 1981)],
  [(2161, .iload 27, 0, 0), (2163, .istore 28, 0, 0), (2165, .iload 28, 0, 0), (2167, .ifCond .lt 61, 0, 2228), (2170, .aload_n 1, 0, 0), (2171, .iload 4, 0, 0), (2173, .iload 28, 0, 0), (2175, .iadd, 0, 0)],
  [(2176, .invokevirtual 80, 0, 570), (2179, .iload 28, 0, 0), (2181, .iload 27, 0, 0), (2183, .if_icmp .ne 7, 0, 2190), (2186, .iconst 0, 0, 0), (2187, .goto 4, 0, 2191), (2190, .iconst 1, 1, 0), (2191, .if_icmp .ne 29, 0, 2220)],
  [(2194, .aload_n 1, 0, 0), (2195, .iconst 0, 0, 0), (2196, .invokevirtual 61, 0, 620), (2199, .aload 25, 0, 0), (2201, .iload 28, 0, 0), (2203, .iaload, 0, 0), (2204, .if_icmp .ne 16, 0, 2220), (2207, .aload_n 1, 0, 0)],
  [(2208, .iconst 5, 5, 0), (2209, .invokevirtual 55, 0, 1210), (2212, .aload 26, 0, 0), (2214, .iload 28, 0, 0), (2216, .iaload, 0, 0), (2217, .if_icmp .eq 5, 0, 2222), (2220, .iconst 0, 0, 0), (2221, .ireturn, 0, 0), (2222, .iinc 28 (-1), (-1), 0)],
  [(2225, .goto (-60), 0, 2165), (2228, .aload_n 1, 0, 0), (2229, .invokevirtual 140, 0, 1250), (2232, .lstore 28, 0, 0), (2234, .aload_n 1, 0, 0), (2235, .iconst 0, 0, 0), (2236, .invokevirtual 80, 0, 570), (2239, .iload 4, 0, 0)]]
theorem qp_fx33 : ∀ (pc : Nat) (e : Instr × Int32 × Nat), qp_fb 132 qp_kM33 pc = some e → qp_ft8 qp_kL pc = some e := qp_wn_of (by decide +kernel)
def qp_kM34 : List (List (Nat × Instr × Int32 × Nat)) := [
  [(2176, .invokevirtual 80, 0, 570), (2179, .iload 28, 0, 0), (2181, .iload 27, 0, 0), (2183, .if_icmp .ne 7, 0, 2190), (2186, .iconst 0, 0, 0), (2187, .goto 4, 0, 2191), (2190, .iconst 1, 1, 0), (2191, .if_icmp .ne 29, 0, 2220)],
  [(2194, .aload_n 1, 0, 0), (2195, .iconst 0, 0, 0), (2196, .invokevirtual 61, 0, 620), (2199, .aload 25, 0, 0), (2201, .iload 28, 0, 0), (2203, .iaload, 0, 0), (2204, .if_icmp .ne 16, 0, 2220), (2207, .aload_n 1, 0, 0)],
  [(2208, .iconst 5, 5, 0), (2209, .invokevirtual 55, 0, 1210), (2212, .aload 26, 0, 0), (2214, .iload 28, 0, 0), (2216, .iaload, 0, 0), (2217, .if_icmp .eq 5, 0, 2222), (2220, .iconst 0, 0, 0), (2221, .ireturn, 0, 0), (2222, .iinc 28 (-1), (-1), 0)],
  [(2225, .goto (-60), 0, 2165), (2228, .aload_n 1, 0, 0), (2229, .invokevirtual 140, 0, 1250), (2232, .lstore 28, 0, 0), (2234, .aload_n 1, 0, 0), (2235, .iconst 0, 0, 0), (2236, .invokevirtual 80, 0, 570), (2239, .iload 4, 0, 0)],
  [(2241, .if_icmp .ne 84, 0, 2325), (2244, .aload_n 1, 0, 0), (2245, .iconst 2, 2, 0), (2246, .invokevirtual 55, 0, 1210), (2249, .ifCond .ne 76, 0, 2325), (2252, .aload_n 1, 0, 0), (2253, .iload_n 3, 0, 0), (2254, .iconst 1, 1, 0), (2255, .isub, 0, 0)],
  [(2256, .invokevirtual 61, 0, 620), (2259, .iload_n 3, 0, 0), (2260, .iconst 1, 1, 0), (2261, .isub, 0, 0), (2262, .if_icmp .ne 63, 0, 2325), (2265, .aload_n 1, 0, 0), (2266, .iconst 0, 0, 0), (2267, .invokevirtual 89, 0, 610), (2270, .iload 4, 0, 0)],
  [(2272, .if_icmp .ne 53, 0, 2325), (2275, .aload_n 1, 0, 0), (2276, .invokevirtual 140, 0, 1250), (2279, .lload 28, 0, 0), (2281, .lcmp, 0, 0), (2282, .ifCond .ne 43, 0, 2325), (2285, .aload_n 1, 0, 0), (2286, .iconst 0, 0, 0), (2287, .invokevirtual 32, 0, 260)],
  [(2290, .iload_n 3, 0, 0), (2291, .if_icmp .ne 34, 0, 2325), (2294, .aload_n 1, 0, 0), (2295, .iconst 0, 0, 0), (2296, .invokevirtual 89, 0, 610), (2299, .bipush (-3), (-3), 0), (2301, .if_icmp .ne 24, 0, 2325)]]
theorem qp_fx34 : ∀ (pc : Nat) (e : Instr × Int32 × Nat), qp_fb 136 qp_kM34 pc = some e → qp_ft8 qp_kL pc = some e := qp_wn_of (by decide +kernel)
def qp_kM35 : List (List (Nat × Instr × Int32 × Nat)) := [
  [(2241, .if_icmp .ne 84, 0, 2325), (2244, .aload_n 1, 0, 0), (2245, .iconst 2, 2, 0), (2246, .invokevirtual 55, 0, 1210), (2249, .ifCond .ne 76, 0, 2325), (2252, .aload_n 1, 0, 0), (2253, .iload_n 3, 0, 0), (2254, .iconst 1, 1, 0), (2255, .isub, 0, 0)],
  [(2256, .invokevirtual 61, 0, 620), (2259, .iload_n 3, 0, 0), (2260, .iconst 1, 1, 0), (2261, .isub, 0, 0), (2262, .if_icmp .ne 63, 0, 2325), (2265, .aload_n 1, 0, 0), (2266, .iconst 0, 0, 0), (2267, .invokevirtual 89, 0, 610), (2270, .iload 4, 0, 0)],
  [(2272, .if_icmp .ne 53, 0, 2325), (2275, .aload_n 1, 0, 0), (2276, .invokevirtual 140, 0, 1250), (2279, .lload 28, 0, 0), (2281, .lcmp, 0, 0), (2282, .ifCond .ne 43, 0, 2325), (2285, .aload_n 1, 0, 0), (2286, .iconst 0, 0, 0), (2287, .invokevirtual 32, 0, 260)],
  [(2290, .iload_n 3, 0, 0), (2291, .if_icmp .ne 34, 0, 2325), (2294, .aload_n 1, 0, 0), (2295, .iconst 0, 0, 0), (2296, .invokevirtual 89, 0, 610), (2299, .bipush (-3), (-3), 0), (2301, .if_icmp .ne 24, 0, 2325)],
  [(2304, .aload_n 1, 0, 0), (2305, .iconst 3, 3, 0), (2306, .invokevirtual 55, 0, 1210), (2309, .ifCond .ne 16, 0, 2325), (2312, .iload 10, 0, 0), (2314, .invokestatic 143, 0, 1381), (2317, .iload_n 3, 0, 0), (2318, .if_icmp .ne 7, 0, 2325)],
  [(2321, .iconst 1, 1, 0), (2322, .goto 4, 0, 2326), (2325, .iconst 0, 0, 0), (2326, .ireturn, 0, 0)]]
theorem qp_fx35 : ∀ (pc : Nat) (e : Instr × Int32 × Nat), qp_fb 140 qp_kM35 pc = some e → qp_ft8 qp_kL pc = some e := qp_wn_of (by decide +kernel)
def qp_kM36 : List (List (Nat × Instr × Int32 × Nat)) := [
  [(2304, .aload_n 1, 0, 0), (2305, .iconst 3, 3, 0), (2306, .invokevirtual 55, 0, 1210), (2309, .ifCond .ne 16, 0, 2325), (2312, .iload 10, 0, 0), (2314, .invokestatic 143, 0, 1381), (2317, .iload_n 3, 0, 0), (2318, .if_icmp .ne 7, 0, 2325)],
  [(2321, .iconst 1, 1, 0), (2322, .goto 4, 0, 2326), (2325, .iconst 0, 0, 0), (2326, .ireturn, 0, 0)]]
theorem qp_fx36 : ∀ (pc : Nat) (e : Instr × Int32 × Nat), qp_fb 144 qp_kM36 pc = some e → qp_ft8 qp_kL pc = some e := qp_wn_of (by decide +kernel)
/-- steps with their entries at hand -/
def qp_runL (lim : Nat × Nat) (o : Nat) (ini : Bool) : List (Nat × Instr × Int32 × Nat) → qp_C → Option (Prop × Prop × qp_C)
  | [], c => some (True, True, c)
  | e :: es, c => match qp_step lim o ini e.2.1 e.2.2.1 e.2.2.2 (e.1, c.2) with
    | some (none, c') => match qp_runL lim o ini es c' with
      | some (f, g, c'') => some (f, c.1 = e.1 ∧ g, c'')
      | none => none
    | some (some p, c') => match qp_runL lim o ini es c' with
      | some (f, g, c'') => some (p ∧ f, c.1 = e.1 ∧ g, c'')
      | none => none
    | none => none
theorem qp_runL_run {lim : Nat × Nat} {o : Nat} {ini : Bool} {K : List (List (Nat × Instr × Int32 × Nat))} : ∀ (es : List (Nat × Instr × Int32 × Nat)) (_ : ∀ q, q ∈ es → qp_ft8 K q.1 = some q.2) (c : qp_C) (f g : Prop) (c' : qp_C), qp_runL lim o ini es c = some (f, g, c') → g → qp_run lim o ini K es.length c = some (f, c')
  | [], _, c, f, g, c', h, _ => by
    obtain ⟨rfl, rfl, rfl⟩ := qp_some3 h
    rfl
  | e :: es, hE, c, f, g, c', h, hg => by
    unfold qp_runL at h
    show qp_run lim o ini K (es.length + 1) c = _
    unfold qp_run
    cases hs : qp_step lim o ini e.2.1 e.2.2.1 e.2.2.2 (e.1, c.2) with
    | none => rw [hs] at h; cases h
    | some x =>
      obtain ⟨p, c1⟩ := x
      cases hr : qp_runL lim o ini es c1 with
      | none => rw [hs] at h; cases p <;> (dsimp only at h; rw [hr] at h; cases h)
      | some y =>
        obtain ⟨f1, g1, c2⟩ := y
        rw [hs] at h
        have hk : ∀ (pp : Prop), some (pp, c.1 = e.1 ∧ g1, c2) = some (f, g, c') → c.1 = e.1 ∧ g1 := fun pp q => by
          obtain ⟨_, q2, _⟩ := qp_some3 q
          rw [q2]; exact hg
        cases p with
        | none =>
          dsimp only at h; rw [hr] at h
          obtain ⟨hc, hg1⟩ := hk _ h
          obtain ⟨rfl, rfl, rfl⟩ := qp_some3 h
          have hcc : (e.1, c.2) = c := by rw [← hc]
          rw [hcc] at hs
          rw [hc, hE e (List.mem_cons_self ..)]
          dsimp only
          rw [hs]
          exact qp_runL_run es (fun q hq => hE q (List.mem_cons_of_mem _ hq)) c1 _ _ _ hr hg1
        | some p =>
          dsimp only at h; rw [hr] at h
          obtain ⟨hc, hg1⟩ := hk _ h
          obtain ⟨rfl, rfl, rfl⟩ := qp_some3 h
          have hcc : (e.1, c.2) = c := by rw [← hc]
          rw [hcc] at hs
          rw [hc, hE e (List.mem_cons_self ..)]
          dsimp only
          rw [hs]
          dsimp only
          rw [qp_runL_run es (fun q hq => hE q (List.mem_cons_of_mem _ hq)) c1 _ _ _ hr hg1]
def qp_brL (e : Instr × Int32 × Nat) (pc : Nat) (c : List (Option Value) × List Value × qp_M) : Option (Prop × qp_C × qp_C) := match e.1, c.2.1 with
    | .ifCond cd _, .int x :: st => some (qp_cnd cd x 0, (e.2.2, c.1, st, c.2.2), (pc + 3, c.1, st, c.2.2))
    | .if_icmp cd _, .int y :: .int x :: st => some (qp_cnd cd x y, (e.2.2, c.1, st, c.2.2), (pc + 3, c.1, st, c.2.2))
    | _, _ => none
theorem qp_brL_br {K : List (List (Nat × Instr × Int32 × Nat))} {e : Instr × Int32 × Nat} {pc : Nat} {c : List (Option Value) × List Value × qp_M} {r : Prop × qp_C × qp_C} (hf : qp_ft8 K pc = some e) (h : qp_brL e pc c = some r) : qp_br K (pc, c) = some r := by
  unfold qp_brL at h
  unfold qp_br
  show (match qp_ft8 K pc with | _ => _) = _
  rw [hf]
  exact h
section LWF
variable {l : Launch} {G : qp_G} {F : Nat → Option (Instr × Int32 × Nat)}
theorem lw_run_L (es : List (Nat × Instr × Int32 × Nat)) {c c' : qp_C} {f g : Prop} (hE : es.all (fun q => decide (qp_ft8 qp_kL q.1 = some q.2)) = true) (h : qp_runL (600000, 7302250) 13 false es c = some (f, g, c')) (hg : g) (hf : f) (k : lw_E l G c') : lw_E l G c := lw_run_E qp_okL es.length (qp_runL_run es (fun _ hq => of_decide_eq_true (List.all_eq_true.mp hE _ hq)) c _ _ _ h hg) trivial hf k
theorem lw_br_L (hF : ∀ (pc : Nat) (e : Instr × Int32 × Nat), F pc = some e → qp_ft8 qp_kL pc = some e) {e : Instr × Int32 × Nat} {pc : Nat} {c : List (Option Value) × List Value × qp_M} {ct cf : qp_C} {f : Prop} (hf : F pc = some e) (h : qp_brL e pc c = some (f, ct, cf)) (kt : f → lw_E l G ct) (kf : ¬ f → lw_E l G cf) : lw_E l G (pc, c) := lw_br_E qp_okL (qp_brL_br (hF _ _ hf) h) kt kf
theorem lw_cVF (hF : ∀ (pc : Nat) (e : Instr × Int32 × Nat), F pc = some e → qp_ft8 qp_kL pc = some e) {pc d' mj ix t b na oj cc qq : Nat} {v : Int32} {L : List (Option Value)} {st rest av : List Value} {I I' : Nat → Nat → Int32} {J J' : Nat → Nat → Int64} {rv : Option Value}
    (hj : qp_fv mj na oj 0) (hf : F pc = some (.invokevirtual ix, v, t)) (hmi : (Nat.beq t (10 * mj) || Nat.beq t (10 * mj + 3)) = true) (hM : qp_Met l G d' mj (.ref b :: av) (qp_mkE cc qq I J) 0 0 (qp_R8E cc qq rv I' J')) (hal : qp_len av = na) (hst : st = av.reverse ++ .ref b :: rest) (hb8 : (Nat.blt b cc && (Nat.beq (qp_S0 b).1 oj && Nat.blt oj 10)) = true) (hcat : (Nat.ble (qp_cat rest) 8 && (Nat.ble cc 900 && Nat.ble qq 9000)) = true) (hd : d' + 1 ≤ 1000)
    (k : lw_E l G (pc + 3, L, rv.toList ++ rest, qp_mkE cc qq I' J')) : lw_E l G (pc, L, st, qp_mkE cc qq I J) := lw_cV qp_okL hj (hF _ _ hf) hmi hM hal hst hb8 hcat hd k
theorem lw_cSF (hF : ∀ (pc : Nat) (e : Instr × Int32 × Nat), F pc = some e → qp_ft8 qp_kL pc = some e) {pc d' mj ix t na oj cc qq : Nat} {v : Int32} {L : List (Option Value)} {st rest av : List Value} {I I' : Nat → Nat → Int32} {J J' : Nat → Nat → Int64} {rv : Option Value}
    (hj : qp_fv mj na oj 1) (hf : F pc = some (.invokestatic ix, v, t)) (hmi : (Nat.beq t (10 * mj + 1) || Nat.beq t (10 * mj + 7)) = true) (hM : qp_Met l G d' mj av (qp_mkE cc qq I J) 0 0 (qp_R8E cc qq rv I' J')) (hal : qp_len av = na) (hst : st = av.reverse ++ rest) (hcat : (Nat.ble (qp_cat rest) 8 && (Nat.ble cc 900 && Nat.ble qq 9000)) = true) (hd : d' + 1 ≤ 1000)
    (k : lw_E l G (pc + 3, L, rv.toList ++ rest, qp_mkE cc qq I' J')) : lw_E l G (pc, L, st, qp_mkE cc qq I J) := lw_cS qp_okL hj (hF _ _ hf) hmi hM hal hst hcat hd k
theorem lw_end_F (hF : ∀ (pc : Nat) (e : Instr × Int32 × Nat), F pc = some e → qp_ft8 qp_kL pc = some e) {pc t cc qq : Nat} {v v' : Int32} {L : List (Option Value)} {I : Nat → Nat → Int32} {J : Nat → Nat → Int64} (hcq : (Nat.ble cc 900 && Nat.ble qq 9000) = true) (hf : F pc = some (.ireturn, v', t)) (hv : v = 1) : lw_E l G (pc, L, [.int v], qp_mkE cc qq I J) := lw_end_E hcq (hF _ _ hf) hv
theorem lw_new_F (hF : ∀ (pc : Nat) (e : Instr × Int32 × Nat), F pc = some e → qp_ft8 qp_kL pc = some e) {pc t cc qq n : Nat} {v : Int32} {L : List (Option Value)} {st : List Value} {I : Nat → Nat → Int32} {J : Nat → Nat → Int64} (hf : F pc = some (.newarray .int, v, t)) (hS : qp_S0 cc = (50, n)) (hc : 36 ≤ cc ∧ cc < 41 ∧ n < 100) (hkn : (qp_fit (600000, 7302250) (qp_mk1 (qp_mkE cc qq I J) 50 (Int32.ofNat n).toNatClampNeg) && qp_knw (pc, L, .int (Int32.ofNat n) :: st, qp_mkE cc qq I J)) = true) (k : lw_E l G (pc + 2, L, .ref cc :: st, qp_mkE (cc + 1) (qq + n) (qp_zI I cc) (qp_zJ J cc))) : lw_E l G (pc, L, .int (Int32.ofNat n) :: st, qp_mkE cc qq I J) := lw_new_E (hF _ _ hf) hS hc hkn k
end LWF

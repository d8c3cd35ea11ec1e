/-! the code: of each method its instructions by sixteens of bytes: (place, instruction, constant, target or what is named) -/
def qp_k0 : List (List (Nat × Instr × Int32 × Nat)) := [
  [(0, .aload_n 0, 0, 0), (1, .invokespecial 1, 0, 5), (4, .aload_n 0, 0, 0), (5, .new 7, 0, 1), (8, .dup, 0, 0), (9, .bipush 6, 6, 0), (11, .bipush 40, 40, 0), (13, .invokespecial 11, 0, 12)],
  [(16, .putfield 14, 0, 0), (19, .aload_n 0, 0, 0), (20, .new 7, 0, 1), (23, .dup, 0, 0), (24, .iconst 4, 4, 0), (25, .bipush 60, 60, 0), (27, .invokespecial 11, 0, 12), (30, .putfield 18, 0, 1)],
  [(33, .aload_n 0, 0, 0), (34, .new 7, 0, 1), (37, .dup, 0, 0), (38, .iconst 3, 3, 0), (39, .bipush 40, 40, 0), (41, .invokespecial 11, 0, 12), (44, .putfield 21, 0, 2), (47, .aload_n 0, 0, 0)],
  [(48, .new 24, 0, 2), (51, .dup, 0, 0), (52, .aload_n 0, 0, 0), (53, .getfield 18, 0, 1), (56, .invokespecial 26, 0, 32), (59, .putfield 29, 0, 3), (62, .aload_n 0, 0, 0), (63, .new 33, 0, 4)],
  [(66, .dup, 0, 0), (67, .invokespecial 35, 0, 54), (70, .putfield 36, 0, 4), (73, .aload_n 0, 0, 0), (74, .new 40, 0, 6), (77, .dup, 0, 0), (78, .aload_n 0, 0, 0), (79, .getfield 36, 0, 4)],
  [(82, .invokespecial 42, 0, 72), (85, .putfield 45, 0, 5), (88, .aload_n 0, 0, 0), (89, .new 49, 0, 7), (92, .dup, 0, 0), (93, .aload_n 0, 0, 0), (94, .getfield 36, 0, 4)],
  [(97, .invokespecial 51, 0, 82), (100, .putfield 52, 0, 6), (103, .aload_n 0, 0, 0), (104, .new 56, 0, 8), (107, .dup, 0, 0), (108, .aload_n 0, 0, 0), (109, .getfield 36, 0, 4)],
  [(112, .invokespecial 58, 0, 92), (115, .putfield 59, 0, 7), (118, .aload_n 0, 0, 0), (119, .new 63, 0, 9), (122, .dup, 0, 0), (123, .aload_n 0, 0, 0), (124, .getfield 36, 0, 4), (127, .invokespecial 65, 0, 102)],
  [(130, .putfield 66, 0, 8), (133, .aload_n 0, 0, 0), (134, .bipush 6, 6, 0), (136, .newarray .int, 0, 0), (138, .putfield 70, 0, 9), (141, .aload_n 0, 0, 0), (142, .lconst 1, 0, 0), (143, .putfield 74, 0, 13)],
  [(146, .return_, 0, 0)]]
def qp_k1 : List (List (Nat × Instr × Int32 × Nat)) := [
  [(0, .aload_n 0, 0, 0), (1, .invokespecial 1, 0, 5), (4, .aload_n 0, 0, 0), (5, .iload_n 2, 0, 0), (6, .putfield 7, 0, 100), (9, .aload_n 0, 0, 0), (10, .iload_n 1, 0, 0), (11, .iconst 0, 0, 0), (12, .invokestatic 13, 0, 21), (15, .newarray .int, 0, 0)],
  [(17, .putfield 19, 0, 101), (20, .aload_n 0, 0, 0), (21, .iload_n 1, 0, 0), (22, .iload_n 2, 0, 0), (23, .imul, 0, 0), (24, .iconst 0, 0, 0), (25, .invokestatic 13, 0, 21), (28, .newarray .int, 0, 0), (30, .putfield 23, 0, 102)],
  [(33, .iconst 0, 0, 0), (34, .istore_n 3, 0, 0), (35, .iload_n 3, 0, 0), (36, .aload_n 0, 0, 0), (37, .getfield 19, 0, 101), (40, .arraylength, 0, 0), (41, .if_icmp .ge 16, 0, 57), (44, .aload_n 0, 0, 0), (45, .getfield 19, 0, 101)],
  [(48, .iload_n 3, 0, 0), (49, .iconst (-1), (-1), 0), (50, .iastore, 0, 0), (51, .iinc 3 1, 1, 0), (54, .goto (-19), 0, 35), (57, .return_, 0, 0)]]
def qp_k2 : List (List (Nat × Instr × Int32 × Nat)) := [
  [(0, .iload_n 0, 0, 0), (1, .iload_n 1, 0, 0), (2, .if_icmp .lt 7, 0, 9), (5, .iload_n 0, 0, 0), (6, .goto 4, 0, 10), (9, .iload_n 1, 0, 0), (10, .ireturn, 0, 0)]]
def qp_k3 : List (List (Nat × Instr × Int32 × Nat)) := [
  [(0, .aload_n 0, 0, 0), (1, .invokespecial 3, 0, 5), (4, .aload_n 0, 0, 0), (5, .new 9, 0, 3), (8, .dup, 0, 0), (9, .invokespecial 11, 0, 44), (12, .putfield 12, 0, 200), (15, .aload_n 0, 0, 0)],
  [(16, .aload_n 1, 0, 0), (17, .putfield 18, 0, 201), (20, .return_, 0, 0)]]
def qp_k4 : List (List (Nat × Instr × Int32 × Nat)) := [
  [(0, .aload_n 0, 0, 0), (1, .invokespecial 3, 0, 5), (4, .aload_n 0, 0, 0), (5, .bipush 6, 6, 0), (7, .newarray .int, 0, 0), (9, .putfield 9, 0, 302), (12, .aload_n 0, 0, 0), (13, .bipush 6, 6, 0), (15, .newarray .int, 0, 0)],
  [(17, .putfield 15, 0, 303), (20, .return_, 0, 0)]]
def qp_k5 : List (List (Nat × Instr × Int32 × Nat)) := [
  [(0, .aload_n 0, 0, 0), (1, .invokespecial 3, 0, 5), (4, .aload_n 0, 0, 0), (5, .new 9, 0, 3), (8, .dup, 0, 0), (9, .invokespecial 11, 0, 44), (12, .putfield 12, 0, 400), (15, .aload_n 0, 0, 0)],
  [(16, .new 18, 0, 5), (19, .dup, 0, 0), (20, .aload_n 0, 0, 0), (21, .getfield 12, 0, 400), (24, .invokespecial 20, 0, 62), (27, .putfield 23, 0, 401), (30, .aload_n 0, 0, 0), (31, .bipush 12, 12, 0)],
  [(33, .newarray .int, 0, 0), (35, .putfield 27, 0, 406), (38, .aload_n 0, 0, 0), (39, .bipush 40, 40, 0), (41, .newarray .int, 0, 0), (43, .putfield 31, 0, 407), (46, .return_, 0, 0)]]
def qp_k6 : List (List (Nat × Instr × Int32 × Nat)) := [
  [(0, .aload_n 0, 0, 0), (1, .invokespecial 3, 0, 5), (4, .aload_n 0, 0, 0), (5, .bipush 6, 6, 0), (7, .newarray .int, 0, 0), (9, .putfield 9, 0, 506), (12, .aload_n 0, 0, 0), (13, .bipush 6, 6, 0), (15, .newarray .int, 0, 0)],
  [(17, .putfield 15, 0, 507), (20, .aload_n 0, 0, 0), (21, .bipush 6, 6, 0), (23, .newarray .int, 0, 0), (25, .putfield 18, 0, 508), (28, .aload_n 0, 0, 0), (29, .bipush 6, 6, 0), (31, .newarray .int, 0, 0)],
  [(33, .putfield 21, 0, 509), (36, .aload_n 0, 0, 0), (37, .aload_n 1, 0, 0), (38, .putfield 24, 0, 502), (41, .return_, 0, 0)]]
def qp_k7 : List (List (Nat × Instr × Int32 × Nat)) := [
  [(0, .aload_n 0, 0, 0), (1, .invokespecial 3, 0, 5), (4, .aload_n 0, 0, 0), (5, .sipush 720, 720, 0), (8, .newarray .int, 0, 0), (10, .putfield 9, 0, 601), (13, .aload_n 0, 0, 0), (14, .sipush 720, 720, 0)],
  [(17, .newarray .int, 0, 0), (19, .putfield 15, 0, 602), (22, .aload_n 0, 0, 0), (23, .sipush 720, 720, 0), (26, .newarray .boolean, 0, 0), (28, .putfield 18, 0, 603), (31, .aload_n 0, 0, 0)],
  [(32, .aload_n 1, 0, 0), (33, .putfield 22, 0, 600), (36, .return_, 0, 0)]]
def qp_k8 : List (List (Nat × Instr × Int32 × Nat)) := [
  [(0, .aload_n 0, 0, 0), (1, .invokespecial 3, 0, 5), (4, .aload_n 0, 0, 0), (5, .bipush 6, 6, 0), (7, .newarray .int, 0, 0), (9, .putfield 9, 0, 702), (12, .aload_n 0, 0, 0), (13, .bipush 6, 6, 0), (15, .newarray .int, 0, 0)],
  [(17, .putfield 15, 0, 703), (20, .aload_n 0, 0, 0), (21, .bipush 24, 24, 0), (23, .newarray .int, 0, 0), (25, .putfield 18, 0, 704), (28, .aload_n 0, 0, 0), (29, .aload_n 1, 0, 0), (30, .putfield 21, 0, 701)],
  [(33, .return_, 0, 0)]]
def qp_k9 : List (List (Nat × Instr × Int32 × Nat)) := [
  [(0, .aload_n 0, 0, 0), (1, .invokespecial 1, 0, 5), (4, .aload_n 0, 0, 0), (5, .aload_n 1, 0, 0), (6, .putfield 7, 0, 800), (9, .return_, 0, 0)]]
def qp_k10 : List (List (Nat × Instr × Int32 × Nat)) := [
  [(0, .aload_n 0, 0, 0), (1, .invokespecial 3, 0, 5), (4, .aload_n 0, 0, 0), (5, .aload_n 1, 0, 0), (6, .putfield 9, 0, 900), (9, .return_, 0, 0)]]
def qp_k11 : List (List (Nat × Instr × Int32 × Nat)) := [
  [(0, .aload_n 0, 0, 0), (1, .aload_n 0, 0, 0), (2, .getfield 14, 0, 0), (5, .iload_n 1, 0, 0), (6, .iload_n 2, 0, 0), (7, .iconst 0, 0, 0), (8, .invokevirtual 78, 0, 120), (11, .ireturn, 0, 0)]]
def qp_k12 : List (List (Nat × Instr × Int32 × Nat)) := [
  [(0, .aload_n 1, 0, 0), (1, .iload_n 2, 0, 0), (2, .invokevirtual 106, 0, 130), (5, .ifCond .eq 11, 0, 16), (8, .iload_n 3, 0, 0), (9, .aload_n 1, 0, 0), (10, .getfield 312, 0, 100), (13, .if_icmp .le 5, 0, 18)],
  [(16, .iconst (-1), (-1), 0), (17, .ireturn, 0, 0), (18, .iload_n 3, 0, 0), (19, .ifCond .ge 9, 0, 28), (22, .aload_n 0, 0, 0), (23, .iconst 5, 5, 0), (24, .invokevirtual 110, 0, 140), (27, .ireturn, 0, 0), (28, .aload_n 1, 0, 0), (29, .iload_n 2, 0, 0), (30, .iload_n 3, 0, 0), (31, .iload 4, 0, 0)],
  [(33, .invokevirtual 215, 0, 150), (36, .iload_n 3, 0, 0), (37, .ireturn, 0, 0)]]
def qp_k13 : List (List (Nat × Instr × Int32 × Nat)) := [
  [(0, .iload_n 1, 0, 0), (1, .ifCond .lt 16, 0, 17), (4, .iload_n 1, 0, 0), (5, .aload_n 0, 0, 0), (6, .getfield 19, 0, 101), (9, .arraylength, 0, 0), (10, .if_icmp .ge 7, 0, 17), (13, .iconst 1, 1, 0), (14, .goto 4, 0, 18)],
  [(17, .iconst 0, 0, 0), (18, .ireturn, 0, 0)]]
def qp_k14 : List (List (Nat × Instr × Int32 × Nat)) := [
  [(0, .aload_n 0, 0, 0), (1, .iload_n 1, 0, 0), (2, .putfield 298, 0, 10), (5, .iload_n 1, 0, 0), (6, .iconst 1, 1, 0), (7, .if_icmp .lt 18, 0, 25), (10, .iload_n 1, 0, 0), (11, .iconst 5, 5, 0), (12, .if_icmp .gt 13, 0, 25), (15, .aload_n 0, 0, 0)],
  [(16, .getfield 70, 0, 9), (19, .iload_n 1, 0, 0), (20, .dup2, 0, 0), (21, .iaload, 0, 0), (22, .iconst 1, 1, 0), (23, .iadd, 0, 0), (24, .iastore, 0, 0), (25, .bipush (-3), (-3), 0), (27, .ireturn, 0, 0)]]
def qp_k15 : List (List (Nat × Instr × Int32 × Nat)) := [
  [(0, .aload_n 0, 0, 0), (1, .iload_n 1, 0, 0), (2, .invokevirtual 26, 0, 130), (5, .ifCond .eq 45, 0, 50), (8, .iload_n 2, 0, 0), (9, .ifCond .lt 41, 0, 50), (12, .iload_n 2, 0, 0), (13, .aload_n 0, 0, 0), (14, .getfield 7, 0, 100)],
  [(17, .if_icmp .gt 33, 0, 50), (20, .aload_n 0, 0, 0), (21, .getfield 19, 0, 101), (24, .iload_n 1, 0, 0), (25, .iload_n 2, 0, 0), (26, .iastore, 0, 0), (27, .iconst 0, 0, 0), (28, .istore 4, 0, 0), (30, .iload 4, 0, 0)],
  [(32, .iload_n 2, 0, 0), (33, .if_icmp .ge 17, 0, 50), (36, .aload_n 0, 0, 0), (37, .iload_n 1, 0, 0), (38, .iload 4, 0, 0), (40, .iload_n 3, 0, 0), (41, .invokevirtual 41, 0, 160), (44, .iinc 4 1, 1, 0), (47, .goto (-17), 0, 30)],
  [(50, .return_, 0, 0)]]
def qp_k16 : List (List (Nat × Instr × Int32 × Nat)) := [
  [(0, .iload_n 1, 0, 0), (1, .aload_n 0, 0, 0), (2, .getfield 7, 0, 100), (5, .imul, 0, 0), (6, .iload_n 2, 0, 0), (7, .iadd, 0, 0), (8, .istore 4, 0, 0), (10, .aload_n 0, 0, 0), (11, .iload_n 1, 0, 0), (12, .iload_n 2, 0, 0), (13, .invokevirtual 37, 0, 170)],
  [(16, .ifCond .eq 26, 0, 42), (19, .iload 4, 0, 0), (21, .ifCond .lt 21, 0, 42), (24, .iload 4, 0, 0), (26, .aload_n 0, 0, 0), (27, .getfield 23, 0, 102), (30, .arraylength, 0, 0), (31, .if_icmp .ge 11, 0, 42)],
  [(34, .aload_n 0, 0, 0), (35, .getfield 23, 0, 102), (38, .iload 4, 0, 0), (40, .iload_n 3, 0, 0), (41, .iastore, 0, 0), (42, .return_, 0, 0)]]
def qp_k17 : List (List (Nat × Instr × Int32 × Nat)) := [
  [(0, .aload_n 0, 0, 0), (1, .iload_n 1, 0, 0), (2, .invokevirtual 26, 0, 130), (5, .ifCond .eq 21, 0, 26), (8, .iload_n 2, 0, 0), (9, .ifCond .lt 17, 0, 26), (12, .iload_n 2, 0, 0), (13, .aload_n 0, 0, 0), (14, .getfield 19, 0, 101)],
  [(17, .iload_n 1, 0, 0), (18, .iaload, 0, 0), (19, .if_icmp .ge 7, 0, 26), (22, .iconst 1, 1, 0), (23, .goto 4, 0, 27), (26, .iconst 0, 0, 0), (27, .ireturn, 0, 0)]]
def qp_k18 : List (List (Nat × Instr × Int32 × Nat)) := [
  [(0, .aload_n 0, 0, 0), (1, .aload_n 0, 0, 0), (2, .getfield 14, 0, 0), (5, .iload_n 1, 0, 0), (6, .iload_n 2, 0, 0), (7, .invokevirtual 82, 0, 190), (10, .istore 4, 0, 0), (12, .iload 4, 0, 0), (14, .ifCond .eq 6, 0, 20)],
  [(17, .iload 4, 0, 0), (19, .ireturn, 0, 0), (20, .aload_n 0, 0, 0), (21, .getfield 14, 0, 0), (24, .iload_n 1, 0, 0), (25, .iload_n 2, 0, 0), (26, .invokevirtual 86, 0, 230), (29, .istore 5, 0, 0), (31, .aload_n 0, 0, 0)],
  [(32, .getfield 14, 0, 0), (35, .iload_n 1, 0, 0), (36, .iload_n 2, 0, 0), (37, .iload_n 3, 0, 0), (38, .invokevirtual 90, 0, 160), (41, .aload_n 0, 0, 0), (42, .iload 5, 0, 0), (44, .invokevirtual 94, 0, 240), (47, .ireturn, 0, 0)]]
def qp_k19 : List (List (Nat × Instr × Int32 × Nat)) := [
  [(0, .aload_n 0, 0, 0), (1, .aload_n 1, 0, 0), (2, .iload_n 2, 0, 0), (3, .invokevirtual 98, 0, 200), (6, .istore 4, 0, 0), (8, .iload 4, 0, 0), (10, .ifCond .eq 6, 0, 16), (13, .iload 4, 0, 0), (15, .ireturn, 0, 0)],
  [(16, .aload_n 1, 0, 0), (17, .iload_n 2, 0, 0), (18, .iload_n 3, 0, 0), (19, .invokevirtual 309, 0, 170), (22, .ifCond .eq 7, 0, 29), (25, .iconst 0, 0, 0), (26, .goto 8, 0, 34), (29, .aload_n 0, 0, 0), (30, .iconst 2, 2, 0), (31, .invokevirtual 110, 0, 140)],
  [(34, .ireturn, 0, 0)]]
def qp_k20 : List (List (Nat × Instr × Int32 × Nat)) := [
  [(0, .aload_n 1, 0, 0), (1, .iload_n 2, 0, 0), (2, .invokevirtual 106, 0, 130), (5, .ifCond .ne 5, 0, 10), (8, .iconst (-1), (-1), 0), (9, .ireturn, 0, 0), (10, .aload_n 1, 0, 0), (11, .iload_n 2, 0, 0), (12, .invokevirtual 113, 0, 210), (15, .ifCond .eq 7, 0, 22)],
  [(18, .iconst 0, 0, 0), (19, .goto 8, 0, 27), (22, .aload_n 0, 0, 0), (23, .iconst 1, 1, 0), (24, .invokevirtual 110, 0, 140), (27, .ireturn, 0, 0)]]
def qp_k21 : List (List (Nat × Instr × Int32 × Nat)) := [
  [(0, .aload_n 0, 0, 0), (1, .iload_n 1, 0, 0), (2, .invokevirtual 30, 0, 220), (5, .iconst (-1), (-1), 0), (6, .if_icmp .eq 7, 0, 13), (9, .iconst 1, 1, 0), (10, .goto 4, 0, 14), (13, .iconst 0, 0, 0), (14, .ireturn, 0, 0)]]
def qp_k22 : List (List (Nat × Instr × Int32 × Nat)) := [
  [(0, .aload_n 0, 0, 0), (1, .iload_n 1, 0, 0), (2, .invokevirtual 26, 0, 130), (5, .ifCond .eq 12, 0, 17), (8, .aload_n 0, 0, 0), (9, .getfield 19, 0, 101), (12, .iload_n 1, 0, 0), (13, .iaload, 0, 0), (14, .goto 4, 0, 18)],
  [(17, .iconst (-1), (-1), 0), (18, .ireturn, 0, 0)]]
def qp_k23 : List (List (Nat × Instr × Int32 × Nat)) := [
  [(0, .iload_n 1, 0, 0), (1, .aload_n 0, 0, 0), (2, .getfield 7, 0, 100), (5, .imul, 0, 0), (6, .iload_n 2, 0, 0), (7, .iadd, 0, 0), (8, .istore_n 3, 0, 0), (9, .aload_n 0, 0, 0), (10, .iload_n 1, 0, 0), (11, .iload_n 2, 0, 0), (12, .invokevirtual 37, 0, 170), (15, .ifCond .eq 25, 0, 40)],
  [(18, .iload_n 3, 0, 0), (19, .ifCond .lt 21, 0, 40), (22, .iload_n 3, 0, 0), (23, .aload_n 0, 0, 0), (24, .getfield 23, 0, 102), (27, .arraylength, 0, 0), (28, .if_icmp .ge 12, 0, 40), (31, .aload_n 0, 0, 0)],
  [(32, .getfield 23, 0, 102), (35, .iload_n 3, 0, 0), (36, .iaload, 0, 0), (37, .goto 4, 0, 41), (40, .iconst 0, 0, 0), (41, .ireturn, 0, 0)]]
def qp_k24 : List (List (Nat × Instr × Int32 × Nat)) := [
  [(0, .aload_n 0, 0, 0), (1, .iload_n 1, 0, 0), (2, .putfield 289, 0, 11), (5, .iconst 1, 1, 0), (6, .ireturn, 0, 0)]]
def qp_k25 : List (List (Nat × Instr × Int32 × Nat)) := [
  [(0, .aload_n 0, 0, 0), (1, .aload_n 0, 0, 0), (2, .getfield 14, 0, 0), (5, .iload_n 1, 0, 0), (6, .iload_n 2, 0, 0), (7, .invokevirtual 82, 0, 190), (10, .istore_n 3, 0, 0), (11, .iload_n 3, 0, 0), (12, .ifCond .eq 5, 0, 17), (15, .iload_n 3, 0, 0)],
  [(16, .ireturn, 0, 0), (17, .aload_n 0, 0, 0), (18, .aload_n 0, 0, 0), (19, .getfield 14, 0, 0), (22, .iload_n 1, 0, 0), (23, .iload_n 2, 0, 0), (24, .invokevirtual 86, 0, 230), (27, .invokevirtual 94, 0, 240), (30, .ireturn, 0, 0)]]
def qp_k26 : List (List (Nat × Instr × Int32 × Nat)) := [
  [(0, .aload_n 0, 0, 0), (1, .aload_n 0, 0, 0), (2, .getfield 18, 0, 1), (5, .iload_n 1, 0, 0), (6, .invokevirtual 98, 0, 200), (9, .istore_n 2, 0, 0), (10, .iload_n 2, 0, 0), (11, .ifCond .eq 5, 0, 16), (14, .iload_n 2, 0, 0), (15, .ireturn, 0, 0)],
  [(16, .aload_n 0, 0, 0), (17, .getfield 29, 0, 3), (20, .iload_n 1, 0, 0), (21, .invokevirtual 131, 0, 270), (24, .bipush (-9), (-9), 0), (26, .if_icmp .eq 6, 0, 32), (29, .bipush (-4), (-4), 0), (31, .ireturn, 0, 0)],
  [(32, .aload_n 0, 0, 0), (33, .getfield 36, 0, 4), (36, .getfield 134, 0, 400), (39, .aload_n 0, 0, 0), (40, .getfield 29, 0, 3), (43, .getfield 138, 0, 200), (46, .invokevirtual 139, 0, 350)],
  [(49, .aload_n 0, 0, 0), (50, .getfield 36, 0, 4), (53, .invokevirtual 145, 0, 380), (56, .iconst 0, 0, 0), (57, .istore_n 3, 0, 0), (58, .iload_n 3, 0, 0), (59, .iconst 3, 3, 0), (60, .if_icmp .ge 17, 0, 77), (63, .aload_n 0, 0, 0)],
  [(64, .getfield 21, 0, 2), (67, .iload_n 3, 0, 0), (68, .invokevirtual 102, 0, 410), (71, .iinc 3 1, 1, 0), (74, .goto (-16), 0, 58), (77, .aload_n 0, 0, 0), (78, .getfield 36, 0, 4)],
  [(81, .getfield 134, 0, 400), (84, .getfield 148, 0, 300), (87, .ireturn, 0, 0)]]
def qp_k27 : List (List (Nat × Instr × Int32 × Nat)) := [
  [(0, .aload_n 0, 0, 0), (1, .iload_n 1, 0, 0), (2, .putfield 22, 0, 202), (5, .aload_n 0, 0, 0), (6, .iconst 0, 0, 0), (7, .putfield 26, 0, 203), (10, .aload_n 0, 0, 0), (11, .getfield 12, 0, 200), (14, .invokevirtual 29, 0, 280)],
  [(17, .aload_n 0, 0, 0), (18, .invokevirtual 32, 0, 290), (21, .aload_n 0, 0, 0), (22, .getfield 26, 0, 203), (25, .aload_n 0, 0, 0), (26, .getfield 18, 0, 201), (29, .aload_n 0, 0, 0), (30, .getfield 22, 0, 202)],
  [(33, .invokevirtual 35, 0, 220), (36, .if_icmp .ge 23, 0, 59), (39, .aload_n 0, 0, 0), (40, .getfield 18, 0, 201), (43, .aload_n 0, 0, 0), (44, .getfield 22, 0, 202), (47, .aload_n 0, 0, 0)],
  [(48, .getfield 26, 0, 203), (51, .invokevirtual 41, 0, 230), (54, .bipush 113, 113, 0), (56, .if_icmp .eq 8, 0, 64), (59, .aload_n 0, 0, 0), (60, .getfield 26, 0, 203), (63, .ireturn, 0, 0)],
  [(64, .aload_n 0, 0, 0), (65, .dup, 0, 0), (66, .getfield 26, 0, 203), (69, .iconst 1, 1, 0), (70, .iadd, 0, 0), (71, .putfield 26, 0, 203), (74, .aload_n 0, 0, 0), (75, .invokevirtual 45, 0, 300), (78, .ifCond .eq 10, 0, 88)],
  [(81, .aload_n 0, 0, 0), (82, .invokevirtual 49, 0, 320), (85, .goto 7, 0, 92), (88, .aload_n 0, 0, 0), (89, .getfield 26, 0, 203), (92, .ireturn, 0, 0)]]
def qp_k28 : List (List (Nat × Instr × Int32 × Nat)) := [
  [(0, .aload_n 0, 0, 0), (1, .iconst 0, 0, 0), (2, .putfield 18, 0, 300), (5, .aload_n 0, 0, 0), (6, .iconst 0, 0, 0), (7, .putfield 22, 0, 301), (10, .return_, 0, 0)]]
def qp_k29 : List (List (Nat × Instr × Int32 × Nat)) := [
  [(0, .aload_n 0, 0, 0), (1, .getfield 26, 0, 203), (4, .aload_n 0, 0, 0), (5, .getfield 18, 0, 201), (8, .aload_n 0, 0, 0), (9, .getfield 22, 0, 202), (12, .invokevirtual 35, 0, 220), (15, .if_icmp .ge 36, 0, 51)],
  [(18, .aload_n 0, 0, 0), (19, .getfield 18, 0, 201), (22, .aload_n 0, 0, 0), (23, .getfield 22, 0, 202), (26, .aload_n 0, 0, 0), (27, .getfield 26, 0, 203), (30, .invokevirtual 41, 0, 230)],
  [(33, .bipush 32, 32, 0), (35, .if_icmp .ne 16, 0, 51), (38, .aload_n 0, 0, 0), (39, .dup, 0, 0), (40, .getfield 26, 0, 203), (43, .iconst 1, 1, 0), (44, .iadd, 0, 0), (45, .putfield 26, 0, 203)],
  [(48, .goto (-48), 0, 0), (51, .return_, 0, 0)]]
def qp_k30 : List (List (Nat × Instr × Int32 × Nat)) := [
  [(0, .aload_n 0, 0, 0), (1, .aload_n 0, 0, 0), (2, .getfield 26, 0, 203), (5, .invokevirtual 53, 0, 310), (8, .istore_n 1, 0, 0), (9, .iload_n 1, 0, 0), (10, .ifCond .ge 5, 0, 15), (13, .iconst 0, 0, 0), (14, .ireturn, 0, 0), (15, .aload_n 0, 0, 0)],
  [(16, .aload_n 0, 0, 0), (17, .getfield 26, 0, 203), (20, .iconst 1, 1, 0), (21, .iadd, 0, 0), (22, .invokevirtual 53, 0, 310), (25, .istore_n 2, 0, 0), (26, .iload_n 2, 0, 0), (27, .ifCond .ge 15, 0, 42), (30, .aload_n 0, 0, 0), (31, .dup, 0, 0)],
  [(32, .getfield 26, 0, 203), (35, .iconst 1, 1, 0), (36, .iadd, 0, 0), (37, .putfield 26, 0, 203), (40, .iconst 0, 0, 0), (41, .ireturn, 0, 0), (42, .aload_n 0, 0, 0), (43, .getfield 12, 0, 200), (46, .bipush 10, 10, 0)],
  [(48, .iload_n 1, 0, 0), (49, .imul, 0, 0), (50, .iload_n 2, 0, 0), (51, .iadd, 0, 0), (52, .putfield 56, 0, 301), (55, .aload_n 0, 0, 0), (56, .getfield 12, 0, 200), (59, .getfield 56, 0, 301), (62, .bipush 20, 20, 0)],
  [(64, .if_icmp .le 5, 0, 69), (67, .iconst 0, 0, 0), (68, .ireturn, 0, 0), (69, .aload_n 0, 0, 0), (70, .dup, 0, 0), (71, .getfield 26, 0, 203), (74, .iconst 2, 2, 0), (75, .iadd, 0, 0), (76, .putfield 26, 0, 203), (79, .iconst 1, 1, 0)],
  [(80, .ireturn, 0, 0)]]
def qp_k31 : List (List (Nat × Instr × Int32 × Nat)) := [
  [(0, .aload_n 0, 0, 0), (1, .getfield 18, 0, 201), (4, .aload_n 0, 0, 0), (5, .getfield 22, 0, 202), (8, .iload_n 1, 0, 0), (9, .invokevirtual 41, 0, 230), (12, .istore_n 2, 0, 0), (13, .aload_n 0, 0, 0), (14, .getfield 18, 0, 201)],
  [(17, .aload_n 0, 0, 0), (18, .getfield 22, 0, 202), (21, .iload_n 1, 0, 0), (22, .invokevirtual 66, 0, 170), (25, .ifCond .eq 19, 0, 44), (28, .iload_n 2, 0, 0), (29, .bipush 48, 48, 0), (31, .if_icmp .lt 13, 0, 44)],
  [(34, .iload_n 2, 0, 0), (35, .bipush 57, 57, 0), (37, .if_icmp .gt 7, 0, 44), (40, .iconst 1, 1, 0), (41, .goto 4, 0, 45), (44, .iconst 0, 0, 0), (45, .istore_n 3, 0, 0), (46, .iload_n 3, 0, 0), (47, .ifCond .eq 10, 0, 57)],
  [(50, .iload_n 2, 0, 0), (51, .bipush 48, 48, 0), (53, .isub, 0, 0), (54, .goto 4, 0, 58), (57, .iconst (-1), (-1), 0), (58, .ireturn, 0, 0)]]
def qp_k32 : List (List (Nat × Instr × Int32 × Nat)) := [
  [(0, .iconst 0, 0, 0), (1, .istore_n 1, 0, 0), (2, .iload_n 1, 0, 0), (3, .bipush 6, 6, 0), (5, .if_icmp .gt 110, 0, 115), (8, .aload_n 0, 0, 0), (9, .invokevirtual 32, 0, 290), (12, .iload_n 1, 0, 0), (13, .ifCond .le 24, 0, 37)],
  [(16, .aload_n 0, 0, 0), (17, .getfield 26, 0, 203), (20, .aload_n 0, 0, 0), (21, .getfield 18, 0, 201), (24, .aload_n 0, 0, 0), (25, .getfield 22, 0, 202), (28, .invokevirtual 35, 0, 220), (31, .if_icmp .lt 6, 0, 37)],
  [(34, .bipush (-9), (-9), 0), (36, .ireturn, 0, 0), (37, .aload_n 0, 0, 0), (38, .aload_n 0, 0, 0), (39, .getfield 26, 0, 203), (42, .invokevirtual 59, 0, 330), (45, .istore_n 2, 0, 0), (46, .iload_n 2, 0, 0), (47, .ifCond .lt 9, 0, 56)],
  [(50, .iload_n 1, 0, 0), (51, .bipush 6, 6, 0), (53, .if_icmp .ne 8, 0, 61), (56, .aload_n 0, 0, 0), (57, .getfield 26, 0, 203), (60, .ireturn, 0, 0), (61, .aload_n 0, 0, 0), (62, .dup, 0, 0), (63, .getfield 26, 0, 203)],
  [(66, .iconst 1, 1, 0), (67, .iadd, 0, 0), (68, .putfield 26, 0, 203), (71, .aload_n 0, 0, 0), (72, .aload_n 0, 0, 0), (73, .getfield 26, 0, 203), (76, .invokevirtual 53, 0, 310), (79, .istore_n 3, 0, 0)],
  [(80, .iload_n 3, 0, 0), (81, .iconst 1, 1, 0), (82, .if_icmp .ge 8, 0, 90), (85, .aload_n 0, 0, 0), (86, .getfield 26, 0, 203), (89, .ireturn, 0, 0), (90, .aload_n 0, 0, 0), (91, .dup, 0, 0), (92, .getfield 26, 0, 203), (95, .iconst 1, 1, 0)],
  [(96, .iadd, 0, 0), (97, .putfield 26, 0, 203), (100, .aload_n 0, 0, 0), (101, .getfield 12, 0, 200), (104, .iload_n 2, 0, 0), (105, .iload_n 3, 0, 0), (106, .invokevirtual 62, 0, 340), (109, .iinc 1 1, 1, 0)],
  [(112, .goto (-110), 0, 2), (115, .aload_n 0, 0, 0), (116, .getfield 26, 0, 203), (119, .ireturn, 0, 0)]]
def qp_k33 : List (List (Nat × Instr × Int32 × Nat)) := [
  [(0, .aload_n 0, 0, 0), (1, .getfield 18, 0, 201), (4, .aload_n 0, 0, 0), (5, .getfield 22, 0, 202), (8, .iload_n 1, 0, 0), (9, .invokevirtual 66, 0, 170), (12, .ifCond .ne 5, 0, 17), (15, .iconst (-1), (-1), 0)],
  [(16, .ireturn, 0, 0), (17, .iconst 0, 0, 0), (18, .istore_n 2, 0, 0), (19, .iload_n 2, 0, 0), (20, .getstatic 70, 0, 1), (23, .arraylength, 0, 0), (24, .if_icmp .ge 31, 0, 55), (27, .aload_n 0, 0, 0), (28, .getfield 18, 0, 201), (31, .aload_n 0, 0, 0)],
  [(32, .getfield 22, 0, 202), (35, .iload_n 1, 0, 0), (36, .invokevirtual 41, 0, 230), (39, .getstatic 70, 0, 1), (42, .iload_n 2, 0, 0), (43, .iaload, 0, 0), (44, .if_icmp .ne 5, 0, 49), (47, .iload_n 2, 0, 0)],
  [(48, .ireturn, 0, 0), (49, .iinc 2 1, 1, 0), (52, .goto (-33), 0, 19), (55, .iconst (-1), (-1), 0), (56, .ireturn, 0, 0)]]
def qp_k34 : List (List (Nat × Instr × Int32 × Nat)) := [
  [(0, .aload_n 0, 0, 0), (1, .getfield 18, 0, 300), (4, .ifCond .lt 57, 0, 61), (7, .aload_n 0, 0, 0), (8, .getfield 18, 0, 300), (11, .aload_n 0, 0, 0), (12, .getfield 9, 0, 302), (15, .arraylength, 0, 0)],
  [(16, .if_icmp .ge 45, 0, 61), (19, .aload_n 0, 0, 0), (20, .getfield 18, 0, 300), (23, .aload_n 0, 0, 0), (24, .getfield 15, 0, 303), (27, .arraylength, 0, 0), (28, .if_icmp .ge 33, 0, 61), (31, .aload_n 0, 0, 0)],
  [(32, .getfield 9, 0, 302), (35, .aload_n 0, 0, 0), (36, .getfield 18, 0, 300), (39, .iload_n 1, 0, 0), (40, .iastore, 0, 0), (41, .aload_n 0, 0, 0), (42, .getfield 15, 0, 303), (45, .aload_n 0, 0, 0), (46, .getfield 18, 0, 300)],
  [(49, .iload_n 2, 0, 0), (50, .iastore, 0, 0), (51, .aload_n 0, 0, 0), (52, .dup, 0, 0), (53, .getfield 18, 0, 300), (56, .iconst 1, 1, 0), (57, .iadd, 0, 0), (58, .putfield 18, 0, 300), (61, .return_, 0, 0)]]
def qp_k35 : List (List (Nat × Instr × Int32 × Nat)) := [
  [(0, .aload_n 0, 0, 0), (1, .invokevirtual 25, 0, 280), (4, .aload_n 0, 0, 0), (5, .aload_n 1, 0, 0), (6, .getfield 22, 0, 301), (9, .putfield 22, 0, 301), (12, .iconst 0, 0, 0), (13, .istore_n 2, 0, 0), (14, .iload_n 2, 0, 0), (15, .aload_n 1, 0, 0)],
  [(16, .getfield 18, 0, 300), (19, .if_icmp .ge 23, 0, 42), (22, .aload_n 0, 0, 0), (23, .aload_n 1, 0, 0), (24, .iload_n 2, 0, 0), (25, .invokevirtual 28, 0, 360), (28, .aload_n 1, 0, 0), (29, .iload_n 2, 0, 0), (30, .invokevirtual 32, 0, 370)],
  [(33, .invokevirtual 35, 0, 340), (36, .iinc 2 1, 1, 0), (39, .goto (-25), 0, 14), (42, .return_, 0, 0)]]
def qp_k36 : List (List (Nat × Instr × Int32 × Nat)) := [
  [(0, .iload_n 1, 0, 0), (1, .ifCond .lt 21, 0, 22), (4, .iload_n 1, 0, 0), (5, .aload_n 0, 0, 0), (6, .getfield 9, 0, 302), (9, .arraylength, 0, 0), (10, .if_icmp .ge 12, 0, 22), (13, .aload_n 0, 0, 0), (14, .getfield 9, 0, 302)],
  [(17, .iload_n 1, 0, 0), (18, .iaload, 0, 0), (19, .goto 4, 0, 23), (22, .iconst 0, 0, 0), (23, .ireturn, 0, 0)]]
def qp_k37 : List (List (Nat × Instr × Int32 × Nat)) := [
  [(0, .iload_n 1, 0, 0), (1, .ifCond .lt 21, 0, 22), (4, .iload_n 1, 0, 0), (5, .aload_n 0, 0, 0), (6, .getfield 15, 0, 303), (9, .arraylength, 0, 0), (10, .if_icmp .ge 12, 0, 22), (13, .aload_n 0, 0, 0), (14, .getfield 15, 0, 303)],
  [(17, .iload_n 1, 0, 0), (18, .iaload, 0, 0), (19, .goto 4, 0, 23), (22, .iconst 0, 0, 0), (23, .ireturn, 0, 0)]]
def qp_k38 : List (List (Nat × Instr × Int32 × Nat)) := [
  [(0, .aload_n 0, 0, 0), (1, .aload_n 0, 0, 0), (2, .getfield 12, 0, 400), (5, .getfield 34, 0, 300), (8, .invokestatic 38, 0, 391), (11, .putfield 44, 0, 402), (14, .aload_n 0, 0, 0), (15, .aload_n 0, 0, 0)],
  [(16, .getfield 12, 0, 400), (19, .getfield 47, 0, 301), (22, .putfield 50, 0, 403), (25, .aload_n 0, 0, 0), (26, .iconst 0, 0, 0), (27, .putfield 51, 0, 404), (30, .aload_n 0, 0, 0), (31, .iconst 0, 0, 0)],
  [(32, .putfield 54, 0, 405), (35, .return_, 0, 0)]]
def qp_k39 : List (List (Nat × Instr × Int32 × Nat)) := [
  [(0, .iconst 0, 0, 0), (1, .istore_n 1, 0, 0), (2, .iconst 0, 0, 0), (3, .istore_n 2, 0, 0), (4, .iload_n 2, 0, 0), (5, .iload_n 0, 0, 0), (6, .if_icmp .ge 16, 0, 22), (9, .iload_n 1, 0, 0), (10, .iload_n 2, 0, 0), (11, .iload_n 2, 0, 0), (12, .invokestatic 7, 0, 401), (15, .istore_n 1, 0, 0)],
  [(16, .iinc 2 1, 1, 0), (19, .goto (-15), 0, 4), (22, .iload_n 1, 0, 0), (23, .ireturn, 0, 0)]]
def qp_k40 : List (List (Nat × Instr × Int32 × Nat)) := [
  [(0, .iload_n 0, 0, 0), (1, .iload_n 2, 0, 0), (2, .iconst 3, 3, 0), (3, .iload_n 1, 0, 0), (4, .imul, 0, 0), (5, .ishl, 0, 0), (6, .ior, 0, 0), (7, .ireturn, 0, 0)]]
def qp_k41 : List (List (Nat × Instr × Int32 × Nat)) := [
  [(0, .aload_n 0, 0, 0), (1, .iload_n 1, 0, 0), (2, .invokevirtual 26, 0, 130), (5, .ifCond .eq 10, 0, 15), (8, .aload_n 0, 0, 0), (9, .getfield 19, 0, 101), (12, .iload_n 1, 0, 0), (13, .iconst (-1), (-1), 0), (14, .iastore, 0, 0), (15, .return_, 0, 0)]]
def qp_k42 : List (List (Nat × Instr × Int32 × Nat)) := [
  [(0, .aload_n 0, 0, 0), (1, .getfield 36, 0, 4), (4, .getfield 134, 0, 400), (7, .iload_n 1, 0, 0), (8, .invokevirtual 152, 0, 430), (11, .ifCond .eq 17, 0, 28), (14, .aload_n 0, 0, 0), (15, .getfield 36, 0, 4)],
  [(18, .getfield 134, 0, 400), (21, .iload_n 2, 0, 0), (22, .invokevirtual 152, 0, 430), (25, .ifCond .ne 5, 0, 30), (28, .iconst (-1), (-1), 0), (29, .ireturn, 0, 0), (30, .aload_n 0, 0, 0), (31, .getfield 36, 0, 4)],
  [(34, .getfield 190, 0, 404), (37, .istore_n 3, 0, 0), (38, .aload_n 0, 0, 0), (39, .getfield 36, 0, 4), (42, .bipush 8, 8, 0), (44, .iload_n 1, 0, 0), (45, .imul, 0, 0), (46, .iload_n 2, 0, 0), (47, .iadd, 0, 0)],
  [(48, .invokevirtual 193, 0, 440), (51, .ifCond .ne 6, 0, 57), (54, .bipush (-4), (-4), 0), (56, .ireturn, 0, 0), (57, .aload_n 0, 0, 0), (58, .getfield 36, 0, 4), (61, .getfield 196, 0, 405)],
  [(64, .bipush 40, 40, 0), (66, .if_icmp .lt 6, 0, 72), (69, .bipush (-2), (-2), 0), (71, .ireturn, 0, 0), (72, .aload_n 0, 0, 0), (73, .getfield 36, 0, 4), (76, .iconst 1, 1, 0), (77, .bipush 8, 8, 0), (79, .iload_n 1, 0, 0)],
  [(80, .imul, 0, 0), (81, .iload_n 2, 0, 0), (82, .iadd, 0, 0), (83, .invokevirtual 199, 0, 480), (86, .iload_n 3, 0, 0), (87, .ireturn, 0, 0)]]
def qp_k43 : List (List (Nat × Instr × Int32 × Nat)) := [
  [(0, .iload_n 1, 0, 0), (1, .ifCond .lt 15, 0, 16), (4, .iload_n 1, 0, 0), (5, .aload_n 0, 0, 0), (6, .getfield 18, 0, 300), (9, .if_icmp .ge 7, 0, 16), (12, .iconst 1, 1, 0), (13, .goto 4, 0, 17)],
  [(16, .iconst 0, 0, 0), (17, .ireturn, 0, 0)]]
def qp_k44 : List (List (Nat × Instr × Int32 × Nat)) := [
  [(0, .aload_n 0, 0, 0), (1, .getfield 51, 0, 404), (4, .bipush 12, 12, 0), (6, .if_icmp .ge 22, 0, 28), (9, .aload_n 0, 0, 0), (10, .iload_n 1, 0, 0), (11, .bipush 8, 8, 0), (13, .idiv, 0, 0), (14, .invokevirtual 74, 0, 450)],
  [(17, .iload_n 1, 0, 0), (18, .bipush 8, 8, 0), (20, .irem, 0, 0), (21, .if_icmp .eq 7, 0, 28), (24, .iconst 1, 1, 0), (25, .goto 4, 0, 29), (28, .iconst 0, 0, 0), (29, .ireturn, 0, 0)]]
def qp_k45 : List (List (Nat × Instr × Int32 × Nat)) := [
  [(0, .aload_n 0, 0, 0), (1, .getfield 44, 0, 402), (4, .aload_n 0, 0, 0), (5, .getfield 12, 0, 400), (8, .getfield 34, 0, 300), (11, .iload_n 1, 0, 0), (12, .invokestatic 61, 0, 461), (15, .ireturn, 0, 0)]]
def qp_k46 : List (List (Nat × Instr × Int32 × Nat)) := [
  [(0, .iconst 0, 0, 0), (1, .istore_n 3, 0, 0), (2, .iload_n 3, 0, 0), (3, .iload_n 1, 0, 0), (4, .if_icmp .ge 18, 0, 22), (7, .iload_n 0, 0, 0), (8, .iload_n 3, 0, 0), (9, .invokestatic 13, 0, 471), (12, .iload_n 2, 0, 0), (13, .if_icmp .eq 9, 0, 22)],
  [(16, .iinc 3 1, 1, 0), (19, .goto (-17), 0, 2), (22, .iload_n 3, 0, 0), (23, .ireturn, 0, 0)]]
def qp_k47 : List (List (Nat × Instr × Int32 × Nat)) := [
  [(0, .iload_n 0, 0, 0), (1, .iconst 3, 3, 0), (2, .iload_n 1, 0, 0), (3, .imul, 0, 0), (4, .ishr, 0, 0), (5, .bipush 7, 7, 0), (7, .iand, 0, 0), (8, .ireturn, 0, 0)]]
def qp_k48 : List (List (Nat × Instr × Int32 × Nat)) := [
  [(0, .iload_n 1, 0, 0), (1, .tableswitch 53 1 3 #[27, 35, 45], 0, 27)],
  [(28, .aload_n 0, 0, 0), (29, .iload_n 2, 0, 0), (30, .invokevirtual 87, 0, 490)],
  [(33, .goto 21, 0, 54), (36, .aload_n 0, 0, 0), (37, .iload_n 2, 0, 0), (38, .iconst 1, 1, 0), (39, .invokevirtual 90, 0, 530), (42, .pop, 0, 0), (43, .goto 11, 0, 54), (46, .aload_n 0, 0, 0), (47, .iload_n 2, 0, 0)],
  [(48, .putfield 50, 0, 403), (51, .goto 3, 0, 54), (54, .aload_n 0, 0, 0), (55, .getfield 54, 0, 405), (58, .ifCond .lt 40, 0, 98), (61, .aload_n 0, 0, 0), (62, .getfield 54, 0, 405)],
  [(65, .aload_n 0, 0, 0), (66, .getfield 31, 0, 407), (69, .arraylength, 0, 0), (70, .if_icmp .ge 28, 0, 98), (73, .aload_n 0, 0, 0), (74, .getfield 31, 0, 407), (77, .aload_n 0, 0, 0), (78, .getfield 54, 0, 405)],
  [(81, .bipush 64, 64, 0), (83, .iload_n 1, 0, 0), (84, .imul, 0, 0), (85, .iload_n 2, 0, 0), (86, .iadd, 0, 0), (87, .iastore, 0, 0), (88, .aload_n 0, 0, 0), (89, .dup, 0, 0), (90, .getfield 54, 0, 405), (93, .iconst 1, 1, 0), (94, .iadd, 0, 0), (95, .putfield 54, 0, 405)],
  [(98, .return_, 0, 0)]]
def qp_k49 : List (List (Nat × Instr × Int32 × Nat)) := [
  [(0, .aload_n 0, 0, 0), (1, .getfield 51, 0, 404), (4, .ifCond .lt 54, 0, 58), (7, .aload_n 0, 0, 0), (8, .getfield 51, 0, 404), (11, .aload_n 0, 0, 0), (12, .getfield 27, 0, 406), (15, .arraylength, 0, 0)],
  [(16, .if_icmp .ge 42, 0, 58), (19, .aload_n 0, 0, 0), (20, .getfield 27, 0, 406), (23, .aload_n 0, 0, 0), (24, .getfield 51, 0, 404), (27, .iload_n 1, 0, 0), (28, .iastore, 0, 0), (29, .aload_n 0, 0, 0), (30, .dup, 0, 0), (31, .getfield 51, 0, 404)],
  [(34, .iconst 1, 1, 0), (35, .iadd, 0, 0), (36, .putfield 51, 0, 404), (39, .aload_n 0, 0, 0), (40, .aload_n 0, 0, 0), (41, .getfield 44, 0, 402), (44, .aload_n 0, 0, 0), (45, .getfield 12, 0, 400)],
  [(48, .getfield 34, 0, 300), (51, .iload_n 1, 0, 0), (52, .invokestatic 65, 0, 501), (55, .putfield 44, 0, 402), (58, .return_, 0, 0)]]
def qp_k50 : List (List (Nat × Instr × Int32 × Nat)) := [
  [(0, .iload_n 2, 0, 0), (1, .bipush 8, 8, 0), (3, .idiv, 0, 0), (4, .istore_n 3, 0, 0), (5, .iload_n 2, 0, 0), (6, .bipush 8, 8, 0), (8, .irem, 0, 0), (9, .istore 4, 0, 0), (11, .iload_n 0, 0, 0), (12, .iload_n 1, 0, 0), (13, .iload_n 3, 0, 0), (14, .invokestatic 17, 0, 461)],
  [(17, .istore 5, 0, 0), (19, .iload 5, 0, 0), (21, .iload_n 1, 0, 0), (22, .if_icmp .ge 9, 0, 31), (25, .iload 4, 0, 0), (27, .iload_n 1, 0, 0), (28, .if_icmp .lt 5, 0, 33), (31, .iload_n 0, 0, 0)],
  [(32, .ireturn, 0, 0), (33, .iload_n 0, 0, 0), (34, .iload 5, 0, 0), (36, .invokestatic 20, 0, 511), (39, .iload_n 0, 0, 0), (40, .iload 5, 0, 0), (42, .iconst 1, 1, 0), (43, .iadd, 0, 0), (44, .invokestatic 23, 0, 521), (47, .iconst 3, 3, 0)],
  [(48, .iload 5, 0, 0), (50, .imul, 0, 0), (51, .ishl, 0, 0), (52, .ior, 0, 0), (53, .istore 6, 0, 0), (55, .iload 6, 0, 0), (57, .iload 4, 0, 0), (59, .invokestatic 20, 0, 511), (62, .iload_n 3, 0, 0), (63, .iconst 3, 3, 0)],
  [(64, .iload 4, 0, 0), (66, .imul, 0, 0), (67, .ishl, 0, 0), (68, .ior, 0, 0), (69, .iload 6, 0, 0), (71, .iload 4, 0, 0), (73, .invokestatic 23, 0, 521), (76, .iconst 3, 3, 0), (77, .iload 4, 0, 0), (79, .iconst 1, 1, 0)],
  [(80, .iadd, 0, 0), (81, .imul, 0, 0), (82, .ishl, 0, 0), (83, .ior, 0, 0), (84, .ireturn, 0, 0)]]
def qp_k51 : List (List (Nat × Instr × Int32 × Nat)) := [
  [(0, .iload_n 0, 0, 0), (1, .iconst 1, 1, 0), (2, .iconst 3, 3, 0), (3, .iload_n 1, 0, 0), (4, .imul, 0, 0), (5, .ishl, 0, 0), (6, .iconst 1, 1, 0), (7, .isub, 0, 0), (8, .iand, 0, 0), (9, .ireturn, 0, 0)]]
def qp_k52 : List (List (Nat × Instr × Int32 × Nat)) := [
  [(0, .iload_n 0, 0, 0), (1, .iconst 3, 3, 0), (2, .iload_n 1, 0, 0), (3, .imul, 0, 0), (4, .ishr, 0, 0), (5, .ireturn, 0, 0)]]
def qp_k53 : List (List (Nat × Instr × Int32 × Nat)) := [
  [(0, .aload_n 0, 0, 0), (1, .getfield 12, 0, 400), (4, .getfield 34, 0, 300), (7, .invokestatic 38, 0, 391), (10, .istore_n 3, 0, 0), (11, .iconst 0, 0, 0), (12, .istore 4, 0, 0), (14, .iconst 0, 0, 0), (15, .istore 5, 0, 0)],
  [(17, .iconst 0, 0, 0), (18, .istore 6, 0, 0), (20, .iload 6, 0, 0), (22, .aload_n 0, 0, 0), (23, .getfield 51, 0, 404), (26, .if_icmp .ge 122, 0, 148), (29, .iload 6, 0, 0), (31, .aload_n 0, 0, 0)],
  [(32, .getfield 27, 0, 406), (35, .arraylength, 0, 0), (36, .if_icmp .ge 112, 0, 148), (39, .aload_n 0, 0, 0), (40, .getfield 27, 0, 406), (43, .iload 6, 0, 0), (45, .iaload, 0, 0), (46, .istore 7, 0, 0)],
  [(48, .iload_n 3, 0, 0), (49, .aload_n 0, 0, 0), (50, .getfield 12, 0, 400), (53, .getfield 34, 0, 300), (56, .iload 7, 0, 0), (58, .bipush 8, 8, 0), (60, .idiv, 0, 0), (61, .invokestatic 61, 0, 461)],
  [(64, .iload 7, 0, 0), (66, .bipush 8, 8, 0), (68, .irem, 0, 0), (69, .if_icmp .ne 7, 0, 76), (72, .iconst 1, 1, 0), (73, .goto 4, 0, 77), (76, .iconst 0, 0, 0), (77, .istore 8, 0, 0), (79, .iload 6, 0, 0)],
  [(81, .iload_n 1, 0, 0), (82, .if_icmp .le 14, 0, 96), (85, .iload 8, 0, 0), (87, .ifCond .eq 9, 0, 96), (90, .iinc 5 1, 1, 0), (93, .goto 49, 0, 142)],
  [(96, .iload 6, 0, 0), (98, .iload_n 1, 0, 0), (99, .if_icmp .eq 43, 0, 142), (102, .iload_n 3, 0, 0), (103, .aload_n 0, 0, 0), (104, .getfield 12, 0, 400), (107, .getfield 34, 0, 300), (110, .iload 7, 0, 0)],
  [(112, .invokestatic 65, 0, 501), (115, .istore_n 3, 0, 0), (116, .iload_n 2, 0, 0), (117, .ifCond .eq 22, 0, 139), (120, .iload 4, 0, 0), (122, .aload_n 0, 0, 0), (123, .getfield 27, 0, 406), (126, .arraylength, 0, 0), (127, .if_icmp .ge 12, 0, 139)],
  [(130, .aload_n 0, 0, 0), (131, .getfield 27, 0, 406), (134, .iload 4, 0, 0), (136, .iload 7, 0, 0), (138, .iastore, 0, 0), (139, .iinc 4 1, 1, 0), (142, .iinc 6 1, 1, 0)],
  [(145, .goto (-125), 0, 20), (148, .iload_n 2, 0, 0), (149, .ifCond .eq 14, 0, 163), (152, .aload_n 0, 0, 0), (153, .iload_n 3, 0, 0), (154, .putfield 44, 0, 402), (157, .aload_n 0, 0, 0), (158, .iload 4, 0, 0)],
  [(160, .putfield 51, 0, 404), (163, .iload 5, 0, 0), (165, .ireturn, 0, 0)]]
def qp_k54 : List (List (Nat × Instr × Int32 × Nat)) := [
  [(0, .aload_n 0, 0, 0), (1, .getfield 36, 0, 4), (4, .iload_n 1, 0, 0), (5, .invokevirtual 202, 0, 550), (8, .ifCond .ne 5, 0, 13), (11, .iconst (-1), (-1), 0), (12, .ireturn, 0, 0), (13, .aload_n 0, 0, 0), (14, .getfield 36, 0, 4)],
  [(17, .getfield 196, 0, 405), (20, .bipush 40, 40, 0), (22, .if_icmp .lt 6, 0, 28), (25, .bipush (-2), (-2), 0), (27, .ireturn, 0, 0), (28, .aload_n 0, 0, 0), (29, .getfield 36, 0, 4)],
  [(32, .iload_n 1, 0, 0), (33, .iconst 0, 0, 0), (34, .invokevirtual 205, 0, 530), (37, .istore_n 2, 0, 0), (38, .aload_n 0, 0, 0), (39, .getfield 36, 0, 4), (42, .iconst 2, 2, 0), (43, .iload_n 1, 0, 0), (44, .invokevirtual 199, 0, 480), (47, .iload_n 2, 0, 0)],
  [(48, .ireturn, 0, 0)]]
def qp_k55 : List (List (Nat × Instr × Int32 × Nat)) := [
  [(0, .iload_n 1, 0, 0), (1, .ifCond .lt 15, 0, 16), (4, .iload_n 1, 0, 0), (5, .aload_n 0, 0, 0), (6, .getfield 51, 0, 404), (9, .if_icmp .ge 7, 0, 16), (12, .iconst 1, 1, 0), (13, .goto 4, 0, 17)],
  [(16, .iconst 0, 0, 0), (17, .ireturn, 0, 0)]]
def qp_k56 : List (List (Nat × Instr × Int32 × Nat)) := [
  [(0, .iload_n 1, 0, 0), (1, .ifCond .lt 9, 0, 10), (4, .iload_n 1, 0, 0), (5, .bipush 20, 20, 0), (7, .if_icmp .le 5, 0, 12), (10, .iconst (-1), (-1), 0), (11, .ireturn, 0, 0), (12, .aload_n 0, 0, 0), (13, .getfield 36, 0, 4)],
  [(16, .getfield 209, 0, 403), (19, .istore_n 2, 0, 0), (20, .aload_n 0, 0, 0), (21, .getfield 36, 0, 4), (24, .getfield 134, 0, 400), (27, .getfield 148, 0, 300), (30, .ifCond .eq 8, 0, 38)],
  [(33, .iload_n 2, 0, 0), (34, .iload_n 1, 0, 0), (35, .if_icmp .ne 6, 0, 41), (38, .bipush (-4), (-4), 0), (40, .ireturn, 0, 0), (41, .aload_n 0, 0, 0), (42, .getfield 36, 0, 4), (45, .getfield 196, 0, 405)],
  [(48, .bipush 40, 40, 0), (50, .if_icmp .lt 6, 0, 56), (53, .bipush (-2), (-2), 0), (55, .ireturn, 0, 0), (56, .aload_n 0, 0, 0), (57, .getfield 36, 0, 4), (60, .iconst 3, 3, 0), (61, .iload_n 1, 0, 0), (62, .invokevirtual 199, 0, 480)],
  [(65, .iload_n 2, 0, 0), (66, .ireturn, 0, 0)]]
def qp_k57 : List (List (Nat × Instr × Int32 × Nat)) := [
  [(0, .iload_n 1, 0, 0), (1, .ifCond .lt 14, 0, 15), (4, .iload_n 1, 0, 0), (5, .aload_n 0, 0, 0), (6, .getfield 36, 0, 4), (9, .getfield 196, 0, 405), (12, .if_icmp .le 5, 0, 17), (15, .iconst (-1), (-1), 0)],
  [(16, .ireturn, 0, 0), (17, .aload_n 0, 0, 0), (18, .getfield 36, 0, 4), (21, .getfield 196, 0, 405), (24, .iload_n 1, 0, 0), (25, .isub, 0, 0), (26, .istore_n 2, 0, 0), (27, .aload_n 0, 0, 0), (28, .getfield 36, 0, 4), (31, .iload_n 1, 0, 0)],
  [(32, .invokevirtual 212, 0, 580), (35, .iload_n 2, 0, 0), (36, .ireturn, 0, 0)]]
def qp_k58 : List (List (Nat × Instr × Int32 × Nat)) := [
  [(0, .aload_n 0, 0, 0), (1, .invokevirtual 94, 0, 380), (4, .iconst 0, 0, 0), (5, .istore_n 2, 0, 0), (6, .iload_n 2, 0, 0), (7, .iload_n 1, 0, 0), (8, .if_icmp .ge 40, 0, 48), (11, .iload_n 2, 0, 0), (12, .aload_n 0, 0, 0), (13, .getfield 31, 0, 407)],
  [(16, .arraylength, 0, 0), (17, .if_icmp .ge 31, 0, 48), (20, .aload_n 0, 0, 0), (21, .aload_n 0, 0, 0), (22, .getfield 31, 0, 407), (25, .iload_n 2, 0, 0), (26, .iaload, 0, 0), (27, .bipush 64, 64, 0), (29, .idiv, 0, 0), (30, .aload_n 0, 0, 0), (31, .getfield 31, 0, 407)],
  [(34, .iload_n 2, 0, 0), (35, .iaload, 0, 0), (36, .bipush 64, 64, 0), (38, .irem, 0, 0), (39, .invokevirtual 97, 0, 480), (42, .iinc 2 1, 1, 0), (45, .goto (-39), 0, 6)],
  [(48, .return_, 0, 0)]]
def qp_k59 : List (List (Nat × Instr × Int32 × Nat)) := [
  [(0, .aload_n 0, 0, 0), (1, .getfield 21, 0, 2), (4, .iload_n 1, 0, 0), (5, .invokevirtual 106, 0, 130), (8, .ifCond .ne 5, 0, 13), (11, .iconst (-1), (-1), 0), (12, .ireturn, 0, 0), (13, .aload_n 0, 0, 0), (14, .getfield 36, 0, 4)],
  [(17, .getfield 134, 0, 400), (20, .getfield 148, 0, 300), (23, .ifCond .ne 6, 0, 29), (26, .bipush (-4), (-4), 0), (28, .ireturn, 0, 0), (29, .aload_n 0, 0, 0), (30, .getfield 21, 0, 2)],
  [(33, .iload_n 1, 0, 0), (34, .aload_n 0, 0, 0), (35, .getfield 36, 0, 4), (38, .getfield 196, 0, 405), (41, .iconst 0, 0, 0), (42, .invokevirtual 215, 0, 150), (45, .iconst 0, 0, 0), (46, .istore_n 2, 0, 0), (47, .iload_n 2, 0, 0)],
  [(48, .aload_n 0, 0, 0), (49, .getfield 36, 0, 4), (52, .getfield 196, 0, 405), (55, .if_icmp .ge 26, 0, 81), (58, .aload_n 0, 0, 0), (59, .getfield 21, 0, 2), (62, .iload_n 1, 0, 0), (63, .iload_n 2, 0, 0)],
  [(64, .aload_n 0, 0, 0), (65, .getfield 36, 0, 4), (68, .iload_n 2, 0, 0), (69, .invokevirtual 218, 0, 600), (72, .invokevirtual 90, 0, 160), (75, .iinc 2 1, 1, 0), (78, .goto (-31), 0, 47)],
  [(81, .aload_n 0, 0, 0), (82, .getfield 36, 0, 4), (85, .getfield 196, 0, 405), (88, .ireturn, 0, 0)]]
def qp_k60 : List (List (Nat × Instr × Int32 × Nat)) := [
  [(0, .iload_n 1, 0, 0), (1, .ifCond .lt 21, 0, 22), (4, .iload_n 1, 0, 0), (5, .aload_n 0, 0, 0), (6, .getfield 31, 0, 407), (9, .arraylength, 0, 0), (10, .if_icmp .ge 12, 0, 22), (13, .aload_n 0, 0, 0), (14, .getfield 31, 0, 407)],
  [(17, .iload_n 1, 0, 0), (18, .iaload, 0, 0), (19, .goto 4, 0, 23), (22, .iconst 0, 0, 0), (23, .ireturn, 0, 0)]]
def qp_k61 : List (List (Nat × Instr × Int32 × Nat)) := [
  [(0, .aload_n 0, 0, 0), (1, .aload_n 0, 0, 0), (2, .getfield 21, 0, 2), (5, .iload_n 1, 0, 0), (6, .invokevirtual 98, 0, 200), (9, .istore_n 2, 0, 0), (10, .iload_n 2, 0, 0), (11, .ifCond .eq 5, 0, 16), (14, .iload_n 2, 0, 0), (15, .ireturn, 0, 0)],
  [(16, .aload_n 0, 0, 0), (17, .getfield 36, 0, 4), (20, .invokevirtual 145, 0, 380), (23, .aload_n 0, 0, 0), (24, .getfield 21, 0, 2), (27, .iload_n 1, 0, 0), (28, .invokevirtual 124, 0, 220), (31, .istore_n 3, 0, 0)],
  [(32, .iconst 0, 0, 0), (33, .istore 4, 0, 0), (35, .iload 4, 0, 0), (37, .iload_n 3, 0, 0), (38, .if_icmp .ge 42, 0, 80), (41, .aload_n 0, 0, 0), (42, .getfield 36, 0, 4), (45, .aload_n 0, 0, 0), (46, .getfield 21, 0, 2)],
  [(49, .iload_n 1, 0, 0), (50, .iload 4, 0, 0), (52, .invokevirtual 86, 0, 230), (55, .bipush 64, 64, 0), (57, .idiv, 0, 0), (58, .aload_n 0, 0, 0), (59, .getfield 21, 0, 2), (62, .iload_n 1, 0, 0), (63, .iload 4, 0, 0)],
  [(65, .invokevirtual 86, 0, 230), (68, .bipush 64, 64, 0), (70, .irem, 0, 0), (71, .invokevirtual 199, 0, 480), (74, .iinc 4 1, 1, 0), (77, .goto (-42), 0, 35)],
  [(80, .iload_n 3, 0, 0), (81, .ireturn, 0, 0)]]
def qp_k62 : List (List (Nat × Instr × Int32 × Nat)) := [
  [(0, .aload_n 0, 0, 0), (1, .getfield 36, 0, 4), (4, .getfield 134, 0, 400), (7, .iload_n 1, 0, 0), (8, .invokevirtual 152, 0, 430), (11, .ifCond .eq 17, 0, 28), (14, .aload_n 0, 0, 0), (15, .getfield 36, 0, 4)],
  [(18, .getfield 153, 0, 402), (21, .iload_n 1, 0, 0), (22, .invokestatic 221, 0, 471), (25, .goto 4, 0, 29), (28, .iconst (-1), (-1), 0), (29, .ireturn, 0, 0)]]
def qp_k63 : List (List (Nat × Instr × Int32 × Nat)) := [
  [(0, .aload_n 0, 0, 0), (1, .getfield 36, 0, 4), (4, .getfield 134, 0, 400), (7, .iload_n 1, 0, 0), (8, .invokevirtual 152, 0, 430), (11, .ifCond .eq 17, 0, 28), (14, .aload_n 0, 0, 0), (15, .getfield 36, 0, 4)],
  [(18, .getfield 134, 0, 400), (21, .iload_n 2, 0, 0), (22, .invokevirtual 152, 0, 430), (25, .ifCond .ne 5, 0, 30), (28, .iconst (-1), (-1), 0), (29, .ireturn, 0, 0), (30, .aload_n 0, 0, 0), (31, .getfield 36, 0, 4)],
  [(34, .getfield 134, 0, 400), (37, .iload_n 1, 0, 0), (38, .invokevirtual 162, 0, 360), (41, .iload_n 2, 0, 0), (42, .aload_n 0, 0, 0), (43, .getfield 36, 0, 4), (46, .getfield 134, 0, 400)],
  [(49, .getfield 148, 0, 300), (52, .iconst 1, 1, 0), (53, .isub, 0, 0), (54, .if_icmp .ne 7, 0, 61), (57, .iconst 1, 1, 0), (58, .goto 4, 0, 62), (61, .iconst 0, 0, 0), (62, .invokestatic 229, 0, 641)],
  [(65, .ireturn, 0, 0)]]
def qp_k64 : List (List (Nat × Instr × Int32 × Nat)) := [
  [(0, .iload_n 0, 0, 0), (1, .tableswitch 47 2 5 #[31, 33, 35, 37], 0, 31)],
  [],
  [(32, .iconst 0, 0, 0), (33, .ireturn, 0, 0), (34, .iconst 2, 2, 0), (35, .ireturn, 0, 0), (36, .iconst 3, 3, 0), (37, .ireturn, 0, 0), (38, .iload_n 1, 0, 0), (39, .ifCond .eq 7, 0, 46), (42, .iconst 1, 1, 0), (43, .goto 4, 0, 47), (46, .iconst 0, 0, 0), (47, .ireturn, 0, 0)],
  [(48, .iconst 1, 1, 0), (49, .ireturn, 0, 0)]]
def qp_k65 : List (List (Nat × Instr × Int32 × Nat)) := [
  [(0, .aload_n 0, 0, 0), (1, .getfield 36, 0, 4), (4, .getfield 134, 0, 400), (7, .iload_n 1, 0, 0), (8, .invokevirtual 152, 0, 430), (11, .ifCond .eq 17, 0, 28), (14, .aload_n 0, 0, 0), (15, .getfield 36, 0, 4)],
  [(18, .getfield 134, 0, 400), (21, .iload_n 2, 0, 0), (22, .invokevirtual 152, 0, 430), (25, .ifCond .ne 5, 0, 30), (28, .iconst (-1), (-1), 0), (29, .ireturn, 0, 0), (30, .aload_n 0, 0, 0), (31, .getfield 36, 0, 4)],
  [(34, .iload_n 1, 0, 0), (35, .iload_n 2, 0, 0), (36, .invokevirtual 231, 0, 660), (39, .ireturn, 0, 0)]]
def qp_k66 : List (List (Nat × Instr × Int32 × Nat)) := [
  [(0, .aload_n 0, 0, 0), (1, .aload_n 0, 0, 0), (2, .getfield 44, 0, 402), (5, .aload_n 0, 0, 0), (6, .getfield 12, 0, 400), (9, .getfield 34, 0, 300), (12, .bipush 8, 8, 0), (14, .iload_n 1, 0, 0), (15, .imul, 0, 0)],
  [(16, .iload_n 2, 0, 0), (17, .iadd, 0, 0), (18, .invokestatic 65, 0, 501), (21, .invokevirtual 68, 0, 670), (24, .aload_n 0, 0, 0), (25, .getfield 23, 0, 401), (28, .iload_n 1, 0, 0), (29, .invokevirtual 71, 0, 720)],
  [(32, .ireturn, 0, 0)]]
def qp_k67 : List (List (Nat × Instr × Int32 × Nat)) := [
  [(0, .aload_n 0, 0, 0), (1, .getfield 23, 0, 401), (4, .iload_n 1, 0, 0), (5, .aload_n 0, 0, 0), (6, .getfield 12, 0, 400), (9, .getfield 34, 0, 300), (12, .aload_n 0, 0, 0), (13, .getfield 50, 0, 403)],
  [(16, .invokevirtual 57, 0, 680), (19, .return_, 0, 0)]]
def qp_k68 : List (List (Nat × Instr × Int32 × Nat)) := [
  [(0, .aload_n 0, 0, 0), (1, .iload_n 3, 0, 0), (2, .putfield 28, 0, 503), (5, .aload_n 0, 0, 0), (6, .iload_n 3, 0, 0), (7, .putfield 32, 0, 504), (10, .aload_n 0, 0, 0), (11, .iconst 0, 0, 0), (12, .putfield 35, 0, 505), (15, .aload_n 0, 0, 0)],
  [(16, .iconst 0, 0, 0), (17, .putfield 38, 0, 500), (20, .aload_n 0, 0, 0), (21, .iconst 0, 0, 0), (22, .putfield 41, 0, 501), (25, .iconst 0, 0, 0), (26, .istore 4, 0, 0), (28, .iload 4, 0, 0), (30, .iconst 2, 2, 0), (31, .if_icmp .ge 86, 0, 117)],
  [(34, .iconst 0, 0, 0), (35, .istore 5, 0, 0), (37, .iload 5, 0, 0), (39, .iload_n 2, 0, 0), (40, .if_icmp .ge 71, 0, 111), (43, .iload_n 1, 0, 0), (44, .iload 5, 0, 0), (46, .invokestatic 44, 0, 471)],
  [(49, .istore 6, 0, 0), (51, .aload_n 0, 0, 0), (52, .getfield 24, 0, 502), (55, .iload 6, 0, 0), (57, .invokevirtual 50, 0, 360), (60, .istore 7, 0, 0), (62, .iload 7, 0, 0)],
  [(64, .iconst 1, 1, 0), (65, .invokestatic 56, 0, 691), (68, .iload 4, 0, 0), (70, .ifCond .ne 7, 0, 77), (73, .iconst 1, 1, 0), (74, .goto 4, 0, 78), (77, .iconst 0, 0, 0), (78, .if_icmp .ne 27, 0, 105)],
  [(81, .aload_n 0, 0, 0), (82, .iload 6, 0, 0), (84, .iload 7, 0, 0), (86, .iload 5, 0, 0), (88, .iload_n 2, 0, 0), (89, .iconst 1, 1, 0), (90, .isub, 0, 0), (91, .if_icmp .ne 7, 0, 98), (94, .iconst 1, 1, 0), (95, .goto 4, 0, 99)],
  [(98, .iconst 0, 0, 0), (99, .invokestatic 60, 0, 641), (102, .invokevirtual 64, 0, 700), (105, .iinc 5 1, 1, 0), (108, .goto (-71), 0, 37), (111, .iinc 4 1, 1, 0)],
  [(114, .goto (-86), 0, 28), (117, .return_, 0, 0)]]
def qp_k69 : List (List (Nat × Instr × Int32 × Nat)) := [
  [(0, .iload_n 0, 0, 0), (1, .iload_n 1, 0, 0), (2, .if_icmp .eq 23, 0, 25), (5, .iload_n 0, 0, 0), (6, .iconst 4, 4, 0), (7, .if_icmp .ne 8, 0, 15), (10, .iload_n 1, 0, 0), (11, .iconst 1, 1, 0), (12, .if_icmp .eq 13, 0, 25), (15, .iload_n 0, 0, 0)],
  [(16, .iconst 5, 5, 0), (17, .if_icmp .ne 12, 0, 29), (20, .iload_n 1, 0, 0), (21, .iconst 2, 2, 0), (22, .if_icmp .ne 7, 0, 29), (25, .iconst 1, 1, 0), (26, .goto 4, 0, 30), (29, .iconst 0, 0, 0), (30, .ireturn, 0, 0)]]
def qp_k70 : List (List (Nat × Instr × Int32 × Nat)) := [
  [(0, .iload_n 1, 0, 0), (1, .ifCond .lt 9, 0, 10), (4, .iload_n 1, 0, 0), (5, .bipush 6, 6, 0), (7, .if_icmp .lt 4, 0, 11), (10, .return_, 0, 0), (11, .aload_n 0, 0, 0), (12, .getfield 35, 0, 505), (15, .aload_n 0, 0, 0)],
  [(16, .getfield 24, 0, 502), (19, .iload_n 1, 0, 0), (20, .invokevirtual 68, 0, 370), (23, .if_icmp .le 7, 0, 30), (26, .iconst 1, 1, 0), (27, .goto 4, 0, 31), (30, .iconst 0, 0, 0), (31, .istore_n 3, 0, 0)],
  [(32, .iload_n 3, 0, 0), (33, .ifCond .eq 7, 0, 40), (36, .iconst 0, 0, 0), (37, .goto 11, 0, 48), (40, .iload_n 2, 0, 0), (41, .aload_n 0, 0, 0), (42, .getfield 32, 0, 504), (45, .invokestatic 71, 0, 711)],
  [(48, .istore 4, 0, 0), (50, .aload_n 0, 0, 0), (51, .getfield 9, 0, 506), (54, .iload_n 1, 0, 0), (55, .iload_n 2, 0, 0), (56, .iastore, 0, 0), (57, .aload_n 0, 0, 0), (58, .getfield 15, 0, 507), (61, .iload_n 1, 0, 0), (62, .iload 4, 0, 0)],
  [(64, .iastore, 0, 0), (65, .aload_n 0, 0, 0), (66, .getfield 18, 0, 508), (69, .iload_n 1, 0, 0), (70, .aload_n 0, 0, 0), (71, .getfield 35, 0, 505), (74, .iastore, 0, 0), (75, .aload_n 0, 0, 0), (76, .getfield 21, 0, 509), (79, .iload_n 1, 0, 0)],
  [(80, .aload_n 0, 0, 0), (81, .getfield 32, 0, 504), (84, .iastore, 0, 0), (85, .iload_n 3, 0, 0), (86, .ifCond .eq 15, 0, 101), (89, .aload_n 0, 0, 0), (90, .dup, 0, 0), (91, .getfield 38, 0, 500), (94, .iconst 1, 1, 0), (95, .iload_n 1, 0, 0)],
  [(96, .ishl, 0, 0), (97, .ior, 0, 0), (98, .putfield 38, 0, 500), (101, .iload_n 2, 0, 0), (102, .ifCond .le 21, 0, 123), (105, .iload 4, 0, 0), (107, .iload_n 2, 0, 0), (108, .if_icmp .ne 15, 0, 123), (111, .aload_n 0, 0, 0)],
  [(112, .dup, 0, 0), (113, .getfield 41, 0, 501), (116, .iconst 1, 1, 0), (117, .iload_n 1, 0, 0), (118, .ishl, 0, 0), (119, .ior, 0, 0), (120, .putfield 41, 0, 501), (123, .aload_n 0, 0, 0), (124, .dup, 0, 0), (125, .getfield 32, 0, 504)],
  [(128, .iload 4, 0, 0), (130, .isub, 0, 0), (131, .putfield 32, 0, 504), (134, .aload_n 0, 0, 0), (135, .dup, 0, 0), (136, .getfield 35, 0, 505), (139, .iconst 1, 1, 0), (140, .iadd, 0, 0), (141, .putfield 35, 0, 505)],
  [(144, .return_, 0, 0)]]
def qp_k71 : List (List (Nat × Instr × Int32 × Nat)) := [
  [(0, .iload_n 0, 0, 0), (1, .iload_n 1, 0, 0), (2, .if_icmp .gt 7, 0, 9), (5, .iload_n 0, 0, 0), (6, .goto 4, 0, 10), (9, .iload_n 1, 0, 0), (10, .ireturn, 0, 0)]]
def qp_k72 : List (List (Nat × Instr × Int32 × Nat)) := [
  [(0, .iload_n 1, 0, 0), (1, .ifCond .lt 21, 0, 22), (4, .iload_n 1, 0, 0), (5, .aload_n 0, 0, 0), (6, .getfield 15, 0, 507), (9, .arraylength, 0, 0), (10, .if_icmp .ge 12, 0, 22), (13, .aload_n 0, 0, 0), (14, .getfield 15, 0, 507)],
  [(17, .iload_n 1, 0, 0), (18, .iaload, 0, 0), (19, .goto 4, 0, 23), (22, .iconst 0, 0, 0), (23, .ireturn, 0, 0)]]
def qp_k73 : List (List (Nat × Instr × Int32 × Nat)) := [
  [(0, .aload_n 0, 0, 0), (1, .getfield 36, 0, 4), (4, .getfield 134, 0, 400), (7, .iload_n 1, 0, 0), (8, .invokevirtual 152, 0, 430), (11, .ifCond .ne 5, 0, 16), (14, .iconst (-1), (-1), 0), (15, .ireturn, 0, 0)],
  [(16, .iconst 0, 0, 0), (17, .istore_n 2, 0, 0), (18, .aload_n 0, 0, 0), (19, .getfield 36, 0, 4), (22, .iload_n 1, 0, 0), (23, .iconst 0, 0, 0), (24, .invokevirtual 231, 0, 660), (27, .istore_n 3, 0, 0), (28, .iconst 1, 1, 0), (29, .istore 4, 0, 0), (31, .iload 4, 0, 0)],
  [(33, .aload_n 0, 0, 0), (34, .getfield 36, 0, 4), (37, .getfield 134, 0, 400), (40, .getfield 148, 0, 300), (43, .if_icmp .ge 33, 0, 76), (46, .aload_n 0, 0, 0), (47, .getfield 36, 0, 4)],
  [(50, .iload_n 1, 0, 0), (51, .iload 4, 0, 0), (53, .invokevirtual 231, 0, 660), (56, .istore 5, 0, 0), (58, .iload 5, 0, 0), (60, .iload_n 3, 0, 0), (61, .if_icmp .le 9, 0, 70)],
  [(64, .iload 4, 0, 0), (66, .istore_n 2, 0, 0), (67, .iload 5, 0, 0), (69, .istore_n 3, 0, 0), (70, .iinc 4 1, 1, 0), (73, .goto (-42), 0, 31), (76, .aload_n 0, 0, 0), (77, .iload_n 3, 0, 0), (78, .invokevirtual 94, 0, 240)],
  [(81, .pop, 0, 0), (82, .iload_n 2, 0, 0), (83, .ireturn, 0, 0)]]
def qp_k74 : List (List (Nat × Instr × Int32 × Nat)) := [
  [(0, .aload_n 0, 0, 0), (1, .getfield 36, 0, 4), (4, .iload_n 1, 0, 0), (5, .invokevirtual 202, 0, 550), (8, .ifCond .eq 15, 0, 23), (11, .aload_n 0, 0, 0), (12, .getfield 36, 0, 4), (15, .iload_n 1, 0, 0)],
  [(16, .iconst 0, 0, 0), (17, .invokevirtual 205, 0, 530), (20, .goto 4, 0, 24), (23, .iconst (-1), (-1), 0), (24, .ireturn, 0, 0)]]
def qp_k75 : List (List (Nat × Instr × Int32 × Nat)) := [
  [(0, .aload_n 0, 0, 0), (1, .getfield 36, 0, 4), (4, .getfield 134, 0, 400), (7, .astore 5, 0, 0), (9, .aload 5, 0, 0), (11, .iload_n 1, 0, 0), (12, .invokevirtual 152, 0, 430), (15, .ifCond .eq 38, 0, 53)],
  [(18, .aload 5, 0, 0), (20, .iload_n 2, 0, 0), (21, .invokevirtual 152, 0, 430), (24, .ifCond .eq 29, 0, 53), (27, .aload 5, 0, 0), (29, .iload_n 3, 0, 0), (30, .invokevirtual 152, 0, 430)],
  [(33, .ifCond .eq 20, 0, 53), (36, .iload_n 1, 0, 0), (37, .iload_n 2, 0, 0), (38, .if_icmp .eq 15, 0, 53), (41, .aload_n 0, 0, 0), (42, .getfield 14, 0, 0), (45, .iload 4, 0, 0), (47, .invokevirtual 106, 0, 130)],
  [(50, .ifCond .ne 5, 0, 55), (53, .iconst (-1), (-1), 0), (54, .ireturn, 0, 0), (55, .aload_n 0, 0, 0), (56, .getfield 45, 0, 5), (59, .iload_n 1, 0, 0), (60, .iload_n 2, 0, 0), (61, .iload_n 3, 0, 0), (62, .invokevirtual 234, 0, 760)],
  [(65, .istore 6, 0, 0), (67, .iload 6, 0, 0), (69, .bipush (-9), (-9), 0), (71, .if_icmp .ne 6, 0, 77), (74, .bipush (-9), (-9), 0), (76, .ireturn, 0, 0), (77, .aload_n 0, 0, 0), (78, .getfield 14, 0, 0)],
  [(81, .iload 4, 0, 0), (83, .iload 6, 0, 0), (85, .iconst 0, 0, 0), (86, .invokevirtual 215, 0, 150), (89, .iconst 0, 0, 0), (90, .istore 7, 0, 0), (92, .iload 7, 0, 0), (94, .iload 6, 0, 0)],
  [(96, .if_icmp .ge 31, 0, 127), (99, .aload_n 0, 0, 0), (100, .getfield 14, 0, 0), (103, .iload 4, 0, 0), (105, .iload 7, 0, 0), (107, .aload_n 0, 0, 0), (108, .getfield 45, 0, 5), (111, .iload 7, 0, 0)],
  [(113, .iload 6, 0, 0), (115, .invokevirtual 238, 0, 850), (118, .invokevirtual 90, 0, 160), (121, .iinc 7 1, 1, 0), (124, .goto (-32), 0, 92), (127, .iload 6, 0, 0)],
  [(129, .ireturn, 0, 0)]]
def qp_k76 : List (List (Nat × Instr × Int32 × Nat)) := [
  [(0, .iconst 0, 0, 0), (1, .istore 4, 0, 0), (3, .iload 4, 0, 0), (5, .aload_n 0, 0, 0), (6, .getfield 18, 0, 603), (9, .arraylength, 0, 0), (10, .if_icmp .ge 17, 0, 27), (13, .aload_n 0, 0, 0), (14, .getfield 18, 0, 603)],
  [(17, .iload 4, 0, 0), (19, .iconst 0, 0, 0), (20, .bastore, 0, 0), (21, .iinc 4 1, 1, 0), (24, .goto (-21), 0, 3), (27, .aload_n 0, 0, 0), (28, .iconst 0, 0, 0), (29, .putfield 26, 0, 604)],
  [(32, .aload_n 0, 0, 0), (33, .aload_n 0, 0, 0), (34, .getfield 22, 0, 600), (37, .getfield 30, 0, 402), (40, .iconst 0, 0, 0), (41, .invokevirtual 35, 0, 770), (44, .iconst 0, 0, 0), (45, .istore 4, 0, 0), (47, .iconst 0, 0, 0)],
  [(48, .istore 5, 0, 0), (50, .iload 5, 0, 0), (52, .iconst 3, 3, 0), (53, .if_icmp .gt 124, 0, 177), (56, .aload_n 0, 0, 0), (57, .getfield 26, 0, 604), (60, .istore 6, 0, 0), (62, .iload 4, 0, 0)],
  [(64, .istore 7, 0, 0), (66, .iload 7, 0, 0), (68, .iload 6, 0, 0), (70, .if_icmp .ge 48, 0, 118), (73, .iload 7, 0, 0), (75, .sipush 720, 720, 0), (78, .if_icmp .ge 40, 0, 118)],
  [(81, .aload_n 0, 0, 0), (82, .aload_n 0, 0, 0), (83, .getfield 9, 0, 601), (86, .iload 7, 0, 0), (88, .iaload, 0, 0), (89, .iload_n 1, 0, 0), (90, .iload_n 2, 0, 0), (91, .iload_n 3, 0, 0), (92, .invokevirtual 39, 0, 800), (95, .ifCond .eq 17, 0, 112)],
  [(98, .aload_n 0, 0, 0), (99, .aload_n 0, 0, 0), (100, .getfield 15, 0, 602), (103, .iload 7, 0, 0), (105, .iaload, 0, 0), (106, .putfield 43, 0, 605), (109, .iload 5, 0, 0), (111, .ireturn, 0, 0)],
  [(112, .iinc 7 1, 1, 0), (115, .goto (-49), 0, 66), (118, .iload 4, 0, 0), (120, .istore 7, 0, 0), (122, .iload 7, 0, 0), (124, .iload 6, 0, 0), (126, .if_icmp .ge 41, 0, 167)],
  [(129, .iload 7, 0, 0), (131, .sipush 720, 720, 0), (134, .if_icmp .ge 33, 0, 167), (137, .iload 5, 0, 0), (139, .iconst 3, 3, 0), (140, .if_icmp .ge 27, 0, 167), (143, .aload_n 0, 0, 0)],
  [(144, .aload_n 0, 0, 0), (145, .getfield 9, 0, 601), (148, .iload 7, 0, 0), (150, .iaload, 0, 0), (151, .aload_n 0, 0, 0), (152, .getfield 15, 0, 602), (155, .iload 7, 0, 0), (157, .iaload, 0, 0), (158, .invokevirtual 46, 0, 840)],
  [(161, .iinc 7 1, 1, 0), (164, .goto (-42), 0, 122), (167, .iload 6, 0, 0), (169, .istore 4, 0, 0), (171, .iinc 5 1, 1, 0), (174, .goto (-124), 0, 50)],
  [(177, .bipush (-9), (-9), 0), (179, .ireturn, 0, 0)]]
def qp_k77 : List (List (Nat × Instr × Int32 × Nat)) := [
  [(0, .iload_n 1, 0, 0), (1, .aload_n 0, 0, 0), (2, .getfield 22, 0, 600), (5, .getfield 49, 0, 400), (8, .getfield 53, 0, 300), (11, .invokestatic 84, 0, 781), (14, .istore_n 3, 0, 0), (15, .iload_n 3, 0, 0)],
  [(16, .ifCond .lt 66, 0, 82), (19, .iload_n 3, 0, 0), (20, .sipush 720, 720, 0), (23, .if_icmp .ge 59, 0, 82), (26, .aload_n 0, 0, 0), (27, .getfield 18, 0, 603), (30, .iload_n 3, 0, 0), (31, .baload, 0, 0)],
  [(32, .ifCond .ne 50, 0, 82), (35, .aload_n 0, 0, 0), (36, .getfield 26, 0, 604), (39, .sipush 720, 720, 0), (42, .if_icmp .ge 40, 0, 82), (45, .aload_n 0, 0, 0), (46, .getfield 18, 0, 603)],
  [(49, .iload_n 3, 0, 0), (50, .iconst 1, 1, 0), (51, .bastore, 0, 0), (52, .aload_n 0, 0, 0), (53, .getfield 9, 0, 601), (56, .aload_n 0, 0, 0), (57, .getfield 26, 0, 604), (60, .iload_n 1, 0, 0), (61, .iastore, 0, 0), (62, .aload_n 0, 0, 0), (63, .getfield 15, 0, 602)],
  [(66, .aload_n 0, 0, 0), (67, .getfield 26, 0, 604), (70, .iload_n 2, 0, 0), (71, .iastore, 0, 0), (72, .aload_n 0, 0, 0), (73, .dup, 0, 0), (74, .getfield 26, 0, 604), (77, .iconst 1, 1, 0), (78, .iadd, 0, 0), (79, .putfield 26, 0, 604)],
  [(82, .return_, 0, 0)]]
def qp_k78 : List (List (Nat × Instr × Int32 × Nat)) := [
  [(0, .iconst 0, 0, 0), (1, .istore_n 2, 0, 0), (2, .iconst 0, 0, 0), (3, .istore_n 3, 0, 0), (4, .iconst 0, 0, 0), (5, .istore 4, 0, 0), (7, .iload 4, 0, 0), (9, .iload_n 1, 0, 0), (10, .if_icmp .ge 46, 0, 56), (13, .iload_n 0, 0, 0), (14, .iload 4, 0, 0)],
  [(16, .invokestatic 13, 0, 471), (19, .istore 5, 0, 0), (21, .iload_n 2, 0, 0), (22, .iload_n 1, 0, 0), (23, .iload 4, 0, 0), (25, .isub, 0, 0), (26, .imul, 0, 0), (27, .iload 5, 0, 0), (29, .iadd, 0, 0), (30, .iload_n 3, 0, 0), (31, .iconst 1, 1, 0)],
  [(32, .iload 5, 0, 0), (34, .ishl, 0, 0), (35, .iconst 1, 1, 0), (36, .isub, 0, 0), (37, .iand, 0, 0), (38, .invokestatic 32, 0, 791), (41, .isub, 0, 0), (42, .istore_n 2, 0, 0), (43, .iload_n 3, 0, 0), (44, .iconst 1, 1, 0), (45, .iload 5, 0, 0), (47, .ishl, 0, 0)],
  [(48, .ior, 0, 0), (49, .istore_n 3, 0, 0), (50, .iinc 4 1, 1, 0), (53, .goto (-46), 0, 7), (56, .iload_n 2, 0, 0), (57, .ireturn, 0, 0)]]
def qp_k79 : List (List (Nat × Instr × Int32 × Nat)) := [
  [(0, .iload_n 0, 0, 0), (1, .iload_n 0, 0, 0), (2, .iconst 1, 1, 0), (3, .iushr, 0, 0), (4, .ldc_w 265, 1431655765, 0), (7, .iand, 0, 0), (8, .isub, 0, 0), (9, .istore_n 0, 0, 0), (10, .iload_n 0, 0, 0), (11, .ldc_w 266, 858993459, 0), (14, .iand, 0, 0), (15, .iload_n 0, 0, 0)],
  [(16, .iconst 2, 2, 0), (17, .iushr, 0, 0), (18, .ldc_w 266, 858993459, 0), (21, .iand, 0, 0), (22, .iadd, 0, 0), (23, .istore_n 0, 0, 0), (24, .iload_n 0, 0, 0), (25, .iload_n 0, 0, 0), (26, .iconst 4, 4, 0), (27, .iushr, 0, 0), (28, .iadd, 0, 0), (29, .ldc_w 267, 252645135, 0)],
  [(32, .iand, 0, 0), (33, .istore_n 0, 0, 0), (34, .iload_n 0, 0, 0), (35, .iload_n 0, 0, 0), (36, .bipush 8, 8, 0), (38, .iushr, 0, 0), (39, .iadd, 0, 0), (40, .istore_n 0, 0, 0), (41, .iload_n 0, 0, 0), (42, .iload_n 0, 0, 0), (43, .bipush 16, 16, 0), (45, .iushr, 0, 0), (46, .iadd, 0, 0), (47, .istore_n 0, 0, 0)],
  [(48, .iload_n 0, 0, 0), (49, .bipush 63, 63, 0), (51, .iand, 0, 0), (52, .ireturn, 0, 0)]]
def qp_k80 : List (List (Nat × Instr × Int32 × Nat)) := [
  [(0, .iload_n 1, 0, 0), (1, .aload_n 0, 0, 0), (2, .getfield 22, 0, 600), (5, .getfield 49, 0, 400), (8, .getfield 53, 0, 300), (11, .iload_n 2, 0, 0), (12, .iload_n 3, 0, 0), (13, .invokestatic 58, 0, 811)],
  [(16, .ifCond .ne 5, 0, 21), (19, .iconst 0, 0, 0), (20, .ireturn, 0, 0), (21, .aload_n 0, 0, 0), (22, .getfield 22, 0, 600), (25, .iload_n 1, 0, 0), (26, .invokevirtual 63, 0, 670), (29, .aload_n 0, 0, 0), (30, .getfield 22, 0, 600)],
  [(33, .getfield 67, 0, 401), (36, .iload 4, 0, 0), (38, .invokevirtual 71, 0, 720), (41, .aload_n 0, 0, 0), (42, .getfield 22, 0, 600), (45, .getfield 67, 0, 401)],
  [(48, .iload 4, 0, 0), (50, .invokevirtual 77, 0, 830), (53, .if_icmp .ne 7, 0, 60), (56, .iconst 1, 1, 0), (57, .goto 4, 0, 61), (60, .iconst 0, 0, 0), (61, .ireturn, 0, 0)]]
def qp_k81 : List (List (Nat × Instr × Int32 × Nat)) := [
  [(0, .iload_n 0, 0, 0), (1, .iload_n 1, 0, 0), (2, .iload_n 2, 0, 0), (3, .invokestatic 17, 0, 461), (6, .iload_n 0, 0, 0), (7, .iload_n 1, 0, 0), (8, .iload_n 3, 0, 0), (9, .invokestatic 17, 0, 461), (12, .isub, 0, 0), (13, .invokestatic 26, 0, 821)],
  [(16, .iconst 1, 1, 0), (17, .if_icmp .ne 7, 0, 24), (20, .iconst 1, 1, 0), (21, .goto 4, 0, 25), (24, .iconst 0, 0, 0), (25, .ireturn, 0, 0)]]
def qp_k82 : List (List (Nat × Instr × Int32 × Nat)) := [
  [(0, .iload_n 0, 0, 0), (1, .ifCond .ge 8, 0, 9), (4, .iload_n 0, 0, 0), (5, .ineg, 0, 0), (6, .goto 4, 0, 10), (9, .iload_n 0, 0, 0), (10, .ireturn, 0, 0)]]
def qp_k83 : List (List (Nat × Instr × Int32 × Nat)) := [
  [(0, .iload_n 1, 0, 0), (1, .ifCond .lt 21, 0, 22), (4, .iload_n 1, 0, 0), (5, .aload_n 0, 0, 0), (6, .getfield 9, 0, 506), (9, .arraylength, 0, 0), (10, .if_icmp .ge 12, 0, 22), (13, .aload_n 0, 0, 0), (14, .getfield 9, 0, 506)],
  [(17, .iload_n 1, 0, 0), (18, .iaload, 0, 0), (19, .goto 4, 0, 23), (22, .iconst 0, 0, 0), (23, .ireturn, 0, 0)]]
def qp_k84 : List (List (Nat × Instr × Int32 × Nat)) := [
  [(0, .aload_n 0, 0, 0), (1, .getfield 22, 0, 600), (4, .getfield 49, 0, 400), (7, .getfield 53, 0, 300), (10, .istore_n 3, 0, 0), (11, .iconst 0, 0, 0), (12, .istore 4, 0, 0), (14, .iload 4, 0, 0)],
  [(16, .iload_n 3, 0, 0), (17, .if_icmp .ge 54, 0, 71), (20, .iconst 0, 0, 0), (21, .istore 5, 0, 0), (23, .iload 5, 0, 0), (25, .iload_n 3, 0, 0), (26, .if_icmp .ge 39, 0, 65), (29, .aload_n 0, 0, 0), (30, .iload_n 1, 0, 0), (31, .iload_n 3, 0, 0)],
  [(32, .bipush 8, 8, 0), (34, .iload 4, 0, 0), (36, .imul, 0, 0), (37, .iload 5, 0, 0), (39, .iadd, 0, 0), (40, .invokestatic 80, 0, 501), (43, .iload_n 2, 0, 0), (44, .bipush 6, 6, 0), (46, .ishl, 0, 0), (47, .bipush 8, 8, 0)],
  [(49, .iload 4, 0, 0), (51, .imul, 0, 0), (52, .iload 5, 0, 0), (54, .iadd, 0, 0), (55, .ior, 0, 0), (56, .invokevirtual 35, 0, 770), (59, .iinc 5 1, 1, 0), (62, .goto (-39), 0, 23)],
  [(65, .iinc 4 1, 1, 0), (68, .goto (-54), 0, 14), (71, .return_, 0, 0)]]
def qp_k85 : List (List (Nat × Instr × Int32 × Nat)) := [
  [(0, .aload_n 0, 0, 0), (1, .getfield 43, 0, 605), (4, .bipush 6, 6, 0), (6, .iload_n 2, 0, 0), (7, .iconst 1, 1, 0), (8, .isub, 0, 0), (9, .iload_n 1, 0, 0), (10, .isub, 0, 0), (11, .imul, 0, 0), (12, .ishr, 0, 0), (13, .bipush 63, 63, 0), (15, .iand, 0, 0)],
  [(16, .ireturn, 0, 0)]]
def qp_k86 : List (List (Nat × Instr × Int32 × Nat)) := [
  [(0, .aload_n 0, 0, 0), (1, .getfield 36, 0, 4), (4, .getfield 134, 0, 400), (7, .getfield 148, 0, 300), (10, .ifCond .ne 19, 0, 29), (13, .aload_n 0, 0, 0), (14, .getfield 14, 0, 0)],
  [(17, .iload_n 1, 0, 0), (18, .invokevirtual 106, 0, 130), (21, .ifCond .eq 8, 0, 29), (24, .bipush (-4), (-4), 0), (26, .goto 8, 0, 34), (29, .aload_n 0, 0, 0), (30, .iload_n 1, 0, 0), (31, .invokevirtual 241, 0, 870)],
  [(34, .istore_n 2, 0, 0), (35, .iload_n 2, 0, 0), (36, .ifCond .eq 5, 0, 41), (39, .iload_n 2, 0, 0), (40, .ireturn, 0, 0), (41, .aload_n 0, 0, 0), (42, .iload_n 1, 0, 0), (43, .invokevirtual 244, 0, 880), (46, .aload_n 0, 0, 0), (47, .aload_n 0, 0, 0)],
  [(48, .getfield 52, 0, 6), (51, .getfield 247, 0, 700), (54, .i2l, 0, 0), (55, .lconst 1, 0, 0), (56, .invokevirtual 250, 0, 930), (59, .ireturn, 0, 0)]]
def qp_k87 : List (List (Nat × Instr × Int32 × Nat)) := [
  [(0, .aload_n 0, 0, 0), (1, .aload_n 0, 0, 0), (2, .getfield 14, 0, 0), (5, .iload_n 1, 0, 0), (6, .invokevirtual 98, 0, 200), (9, .istore_n 2, 0, 0), (10, .iload_n 2, 0, 0), (11, .ifCond .eq 5, 0, 16), (14, .iload_n 2, 0, 0), (15, .ireturn, 0, 0)],
  [(16, .aload_n 0, 0, 0), (17, .getfield 14, 0, 0), (20, .iload_n 1, 0, 0), (21, .invokevirtual 124, 0, 220), (24, .istore_n 3, 0, 0), (25, .iload_n 3, 0, 0), (26, .iconst 2, 2, 0), (27, .irem, 0, 0), (28, .ifCond .ne 9, 0, 37), (31, .iload_n 3, 0, 0)],
  [(32, .bipush 16, 16, 0), (34, .if_icmp .le 9, 0, 43), (37, .aload_n 0, 0, 0), (38, .iconst 5, 5, 0), (39, .invokevirtual 110, 0, 140), (42, .ireturn, 0, 0), (43, .iconst 0, 0, 0), (44, .istore 4, 0, 0), (46, .iload 4, 0, 0)],
  [(48, .iload_n 3, 0, 0), (49, .if_icmp .ge 64, 0, 113), (52, .aload_n 0, 0, 0), (53, .getfield 14, 0, 0), (56, .iload_n 1, 0, 0), (57, .iload 4, 0, 0), (59, .iconst 1, 1, 0), (60, .iadd, 0, 0), (61, .invokevirtual 86, 0, 230)],
  [(64, .istore 5, 0, 0), (66, .aload_n 0, 0, 0), (67, .getfield 36, 0, 4), (70, .getfield 134, 0, 400), (73, .aload_n 0, 0, 0), (74, .getfield 14, 0, 0), (77, .iload_n 1, 0, 0), (78, .iload 4, 0, 0)],
  [(80, .invokevirtual 86, 0, 230), (83, .invokevirtual 152, 0, 430), (86, .ifCond .eq 15, 0, 101), (89, .iload 5, 0, 0), (91, .ifCond .lt 10, 0, 101), (94, .iload 5, 0, 0)],
  [(96, .bipush 9, 9, 0), (98, .if_icmp .le 9, 0, 107), (101, .aload_n 0, 0, 0), (102, .iconst 3, 3, 0), (103, .invokevirtual 110, 0, 140), (106, .ireturn, 0, 0), (107, .iinc 4 2, 2, 0), (110, .goto (-64), 0, 46)],
  [(113, .iconst 0, 0, 0), (114, .ireturn, 0, 0)]]
def qp_k88 : List (List (Nat × Instr × Int32 × Nat)) := [
  [(0, .aload_n 0, 0, 0), (1, .getfield 52, 0, 6), (4, .invokevirtual 340, 0, 890), (7, .aload_n 0, 0, 0), (8, .getfield 14, 0, 0), (11, .iload_n 1, 0, 0), (12, .invokevirtual 124, 0, 220), (15, .istore_n 2, 0, 0)],
  [(16, .iconst 0, 0, 0), (17, .istore_n 3, 0, 0), (18, .iload_n 3, 0, 0), (19, .iload_n 2, 0, 0), (20, .if_icmp .ge 36, 0, 56), (23, .aload_n 0, 0, 0), (24, .getfield 52, 0, 6), (27, .aload_n 0, 0, 0), (28, .getfield 14, 0, 0), (31, .iload_n 1, 0, 0)],
  [(32, .iload_n 3, 0, 0), (33, .invokevirtual 86, 0, 230), (36, .aload_n 0, 0, 0), (37, .getfield 14, 0, 0), (40, .iload_n 1, 0, 0), (41, .iload_n 3, 0, 0), (42, .iconst 1, 1, 0), (43, .iadd, 0, 0), (44, .invokevirtual 86, 0, 230), (47, .invokevirtual 343, 0, 900)],
  [(50, .iinc 3 2, 2, 0), (53, .goto (-35), 0, 18), (56, .aload_n 0, 0, 0), (57, .getfield 52, 0, 6), (60, .iconst 0, 0, 0), (61, .iconst 0, 0, 0), (62, .iconst 0, 0, 0), (63, .invokestatic 346, 0, 917)],
  [(66, .return_, 0, 0)]]
def qp_k89 : List (List (Nat × Instr × Int32 × Nat)) := [
  [(0, .aload_n 0, 0, 0), (1, .iconst 0, 0, 0), (2, .putfield 25, 0, 700), (5, .iconst 0, 0, 0), (6, .istore_n 1, 0, 0), (7, .iload_n 1, 0, 0), (8, .bipush 6, 6, 0), (10, .if_icmp .ge 23, 0, 33), (13, .aload_n 0, 0, 0), (14, .getfield 9, 0, 702)],
  [(17, .iload_n 1, 0, 0), (18, .iconst (-1), (-1), 0), (19, .iastore, 0, 0), (20, .aload_n 0, 0, 0), (21, .getfield 15, 0, 703), (24, .iload_n 1, 0, 0), (25, .iconst 0, 0, 0), (26, .iastore, 0, 0), (27, .iinc 1 1, 1, 0), (30, .goto (-23), 0, 7)],
  [(33, .iconst 0, 0, 0), (34, .istore_n 1, 0, 0), (35, .iload_n 1, 0, 0), (36, .aload_n 0, 0, 0), (37, .getfield 18, 0, 704), (40, .arraylength, 0, 0), (41, .if_icmp .ge 16, 0, 57), (44, .aload_n 0, 0, 0), (45, .getfield 18, 0, 704)],
  [(48, .iload_n 1, 0, 0), (49, .iconst 0, 0, 0), (50, .iastore, 0, 0), (51, .iinc 1 1, 1, 0), (54, .goto (-19), 0, 35), (57, .return_, 0, 0)]]
def qp_k90 : List (List (Nat × Instr × Int32 × Nat)) := [
  [(0, .iload_n 1, 0, 0), (1, .ifCond .lt 44, 0, 45), (4, .iload_n 1, 0, 0), (5, .aload_n 0, 0, 0), (6, .getfield 9, 0, 702), (9, .arraylength, 0, 0), (10, .if_icmp .ge 35, 0, 45), (13, .aload_n 0, 0, 0), (14, .getfield 9, 0, 702)],
  [(17, .iload_n 1, 0, 0), (18, .aload_n 0, 0, 0), (19, .getfield 9, 0, 702), (22, .iload_n 1, 0, 0), (23, .iaload, 0, 0), (24, .iconst (-1), (-1), 0), (25, .if_icmp .eq 13, 0, 38), (28, .aload_n 0, 0, 0), (29, .getfield 9, 0, 702)],
  [(32, .iload_n 1, 0, 0), (33, .iaload, 0, 0), (34, .iload_n 2, 0, 0), (35, .if_icmp .ne 7, 0, 42), (38, .iload_n 2, 0, 0), (39, .goto 5, 0, 44), (42, .bipush (-2), (-2), 0), (44, .iastore, 0, 0), (45, .return_, 0, 0)]]
def qp_k91 : List (List (Nat × Instr × Int32 × Nat)) := [
  [(0, .aload_n 0, 0, 0), (1, .getfield 21, 0, 701), (4, .getfield 29, 0, 400), (7, .getfield 35, 0, 300), (10, .istore 4, 0, 0), (12, .iload_n 2, 0, 0), (13, .iload 4, 0, 0), (15, .if_icmp .lt 9, 0, 24)],
  [(18, .aload_n 0, 0, 0), (19, .iload_n 1, 0, 0), (20, .invokevirtual 40, 0, 920), (23, .return_, 0, 0), (24, .iconst 0, 0, 0), (25, .istore 5, 0, 0), (27, .iload 5, 0, 0), (29, .iload 4, 0, 0), (31, .if_icmp .ge 38, 0, 69)],
  [(34, .iload_n 3, 0, 0), (35, .iload 5, 0, 0), (37, .ishr, 0, 0), (38, .iconst 1, 1, 0), (39, .iand, 0, 0), (40, .ifCond .ne 23, 0, 63), (43, .aload_n 0, 0, 0), (44, .iload_n 1, 0, 0), (45, .iload_n 2, 0, 0), (46, .iload 5, 0, 0)],
  [(48, .invokestatic 44, 0, 401), (51, .iload_n 2, 0, 0), (52, .iconst 1, 1, 0), (53, .iadd, 0, 0), (54, .iload_n 3, 0, 0), (55, .iconst 1, 1, 0), (56, .iload 5, 0, 0), (58, .ishl, 0, 0), (59, .ior, 0, 0), (60, .invokestatic 50, 0, 911), (63, .iinc 5 1, 1, 0)],
  [(66, .goto (-39), 0, 27), (69, .return_, 0, 0)]]
def qp_k92 : List (List (Nat × Instr × Int32 × Nat)) := [
  [(0, .aload_n 0, 0, 0), (1, .getfield 21, 0, 701), (4, .iload_n 1, 0, 0), (5, .invokevirtual 54, 0, 670), (8, .aload_n 0, 0, 0), (9, .getfield 21, 0, 701), (12, .getfield 29, 0, 400), (15, .getfield 35, 0, 300)],
  [(18, .istore_n 2, 0, 0), (19, .iconst 0, 0, 0), (20, .istore_n 3, 0, 0), (21, .iload_n 3, 0, 0), (22, .iload_n 2, 0, 0), (23, .if_icmp .ge 49, 0, 72), (26, .iload_n 3, 0, 0), (27, .aload_n 0, 0, 0), (28, .getfield 9, 0, 702), (31, .arraylength, 0, 0)],
  [(32, .if_icmp .ge 40, 0, 72), (35, .aload_n 0, 0, 0), (36, .getfield 9, 0, 702), (39, .iload_n 3, 0, 0), (40, .iaload, 0, 0), (41, .iconst (-1), (-1), 0), (42, .if_icmp .eq 24, 0, 66), (45, .aload_n 0, 0, 0), (46, .getfield 9, 0, 702)],
  [(49, .iload_n 3, 0, 0), (50, .iaload, 0, 0), (51, .aload_n 0, 0, 0), (52, .getfield 21, 0, 701), (55, .getfield 57, 0, 401), (58, .iload_n 3, 0, 0), (59, .invokevirtual 61, 0, 720), (62, .if_icmp .eq 4, 0, 66)],
  [(65, .return_, 0, 0), (66, .iinc 3 1, 1, 0), (69, .goto (-48), 0, 21), (72, .aload_n 0, 0, 0), (73, .dup, 0, 0), (74, .getfield 25, 0, 700), (77, .iconst 1, 1, 0), (78, .iadd, 0, 0), (79, .putfield 25, 0, 700)],
  [(82, .iconst 0, 0, 0), (83, .istore_n 3, 0, 0), (84, .iload_n 3, 0, 0), (85, .iload_n 2, 0, 0), (86, .if_icmp .ge 77, 0, 163), (89, .iload_n 3, 0, 0), (90, .aload_n 0, 0, 0), (91, .getfield 15, 0, 703), (94, .arraylength, 0, 0), (95, .if_icmp .ge 68, 0, 163)],
  [(98, .aload_n 0, 0, 0), (99, .getfield 15, 0, 703), (102, .iload_n 3, 0, 0), (103, .dup2, 0, 0), (104, .iaload, 0, 0), (105, .iconst 1, 1, 0), (106, .iload_n 1, 0, 0), (107, .iload_n 3, 0, 0), (108, .invokestatic 67, 0, 471), (111, .ishl, 0, 0)],
  [(112, .ior, 0, 0), (113, .iastore, 0, 0), (114, .iload_n 3, 0, 0), (115, .iconst 4, 4, 0), (116, .imul, 0, 0), (117, .aload_n 0, 0, 0), (118, .getfield 21, 0, 701), (121, .getfield 57, 0, 401), (124, .iload_n 3, 0, 0), (125, .invokevirtual 61, 0, 720)],
  [(128, .iadd, 0, 0), (129, .istore 4, 0, 0), (131, .iload 4, 0, 0), (133, .ifCond .lt 24, 0, 157), (136, .iload 4, 0, 0), (138, .aload_n 0, 0, 0), (139, .getfield 18, 0, 704), (142, .arraylength, 0, 0), (143, .if_icmp .ge 14, 0, 157)],
  [(146, .aload_n 0, 0, 0), (147, .getfield 18, 0, 704), (150, .iload 4, 0, 0), (152, .dup2, 0, 0), (153, .iaload, 0, 0), (154, .iconst 1, 1, 0), (155, .iadd, 0, 0), (156, .iastore, 0, 0), (157, .iinc 3 1, 1, 0)],
  [(160, .goto (-76), 0, 84), (163, .return_, 0, 0)]]
def qp_k93 : List (List (Nat × Instr × Int32 × Nat)) := [
  [(0, .lload_n 1, 0, 0), (1, .lload_n 3, 0, 0), (2, .invokestatic 315, 0, 941), (5, .lstore 5, 0, 0), (7, .lload 5, 0, 0), (9, .lconst 0, 0, 0), (10, .lcmp, 0, 0), (11, .ifCond .le 19, 0, 30), (14, .aload_n 0, 0, 0), (15, .lload_n 1, 0, 0)],
  [(16, .lload 5, 0, 0), (18, .ldiv, 0, 0), (19, .putfield 292, 0, 12), (22, .aload_n 0, 0, 0), (23, .lload_n 3, 0, 0), (24, .lload 5, 0, 0), (26, .ldiv, 0, 0), (27, .putfield 74, 0, 13), (30, .iconst 1, 1, 0), (31, .ireturn, 0, 0)]]
def qp_k94 : List (List (Nat × Instr × Int32 × Nat)) := [
  [(0, .lload_n 0, 0, 0), (1, .lstore 4, 0, 0), (3, .lload_n 2, 0, 0), (4, .lstore 6, 0, 0), (6, .iconst 0, 0, 0), (7, .istore 8, 0, 0), (9, .iload 8, 0, 0), (11, .sipush 200, 200, 0), (14, .if_icmp .ge 31, 0, 45)],
  [(17, .lload 6, 0, 0), (19, .lconst 0, 0, 0), (20, .lcmp, 0, 0), (21, .ifCond .eq 24, 0, 45), (24, .lload 4, 0, 0), (26, .lload 6, 0, 0), (28, .lrem, 0, 0), (29, .lstore 9, 0, 0), (31, .lload 6, 0, 0)],
  [(33, .lstore 4, 0, 0), (35, .lload 9, 0, 0), (37, .lstore 6, 0, 0), (39, .iinc 8 1, 1, 0), (42, .goto (-33), 0, 9), (45, .lload 4, 0, 0), (47, .lreturn, 0, 0)]]
def qp_k95 : List (List (Nat × Instr × Int32 × Nat)) := [
  [(0, .aload_n 0, 0, 0), (1, .getfield 36, 0, 4), (4, .getfield 134, 0, 400), (7, .iload_n 2, 0, 0), (8, .invokevirtual 152, 0, 430), (11, .ifCond .eq 11, 0, 22), (14, .aload_n 0, 0, 0), (15, .iload_n 1, 0, 0)],
  [(16, .invokevirtual 241, 0, 870), (19, .goto 4, 0, 23), (22, .iconst (-1), (-1), 0), (23, .istore_n 3, 0, 0), (24, .iload_n 3, 0, 0), (25, .ifCond .eq 5, 0, 30), (28, .iload_n 3, 0, 0), (29, .ireturn, 0, 0), (30, .aload_n 0, 0, 0), (31, .iload_n 1, 0, 0)],
  [(32, .invokevirtual 244, 0, 880), (35, .aload_n 0, 0, 0), (36, .getfield 52, 0, 6), (39, .iload_n 2, 0, 0), (40, .invokevirtual 254, 0, 960), (43, .ireturn, 0, 0)]]
def qp_k96 : List (List (Nat × Instr × Int32 × Nat)) := [
  [(0, .iload_n 1, 0, 0), (1, .ifCond .lt 21, 0, 22), (4, .iload_n 1, 0, 0), (5, .aload_n 0, 0, 0), (6, .getfield 15, 0, 703), (9, .arraylength, 0, 0), (10, .if_icmp .ge 12, 0, 22), (13, .aload_n 0, 0, 0), (14, .getfield 15, 0, 703)],
  [(17, .iload_n 1, 0, 0), (18, .iaload, 0, 0), (19, .goto 4, 0, 23), (22, .iconst 0, 0, 0), (23, .ireturn, 0, 0)]]
def qp_k97 : List (List (Nat × Instr × Int32 × Nat)) := [
  [(0, .aload_n 0, 0, 0), (1, .getfield 36, 0, 4), (4, .getfield 134, 0, 400), (7, .getfield 148, 0, 300), (10, .ifCond .ne 19, 0, 29), (13, .aload_n 0, 0, 0), (14, .getfield 14, 0, 0)],
  [(17, .iload_n 1, 0, 0), (18, .invokevirtual 106, 0, 130), (21, .ifCond .eq 8, 0, 29), (24, .bipush (-4), (-4), 0), (26, .goto 8, 0, 34), (29, .aload_n 0, 0, 0), (30, .iload_n 1, 0, 0), (31, .invokevirtual 241, 0, 870)],
  [(34, .istore_n 2, 0, 0), (35, .iload_n 2, 0, 0), (36, .ifCond .eq 5, 0, 41), (39, .iload_n 2, 0, 0), (40, .ireturn, 0, 0), (41, .aload_n 0, 0, 0), (42, .iload_n 1, 0, 0), (43, .invokevirtual 244, 0, 880), (46, .aload_n 0, 0, 0), (47, .getfield 52, 0, 6)],
  [(50, .getfield 247, 0, 700), (53, .ifCond .ne 6, 0, 59), (56, .bipush (-9), (-9), 0), (58, .ireturn, 0, 0), (59, .iconst 0, 0, 0), (60, .istore_n 3, 0, 0), (61, .iconst 1, 1, 0), (62, .istore 4, 0, 0)],
  [(64, .iload 4, 0, 0), (66, .aload_n 0, 0, 0), (67, .getfield 36, 0, 4), (70, .getfield 134, 0, 400), (73, .getfield 148, 0, 300), (76, .if_icmp .ge 32, 0, 108), (79, .aload_n 0, 0, 0)],
  [(80, .getfield 52, 0, 6), (83, .iload 4, 0, 0), (85, .invokevirtual 257, 0, 980), (88, .aload_n 0, 0, 0), (89, .getfield 52, 0, 6), (92, .iload_n 3, 0, 0), (93, .invokevirtual 257, 0, 980)],
  [(96, .if_icmp .ge 6, 0, 102), (99, .iload 4, 0, 0), (101, .istore_n 3, 0, 0), (102, .iinc 4 1, 1, 0), (105, .goto (-41), 0, 64), (108, .aload_n 0, 0, 0), (109, .aload_n 0, 0, 0), (110, .getfield 52, 0, 6)],
  [(113, .iload_n 3, 0, 0), (114, .invokevirtual 257, 0, 980), (117, .invokevirtual 94, 0, 240), (120, .pop, 0, 0), (121, .iload_n 3, 0, 0), (122, .ireturn, 0, 0)]]
def qp_k98 : List (List (Nat × Instr × Int32 × Nat)) := [
  [(0, .iconst 0, 0, 0), (1, .istore_n 2, 0, 0), (2, .iload_n 1, 0, 0), (3, .iconst 4, 4, 0), (4, .imul, 0, 0), (5, .istore_n 3, 0, 0), (6, .iload_n 3, 0, 0), (7, .iload_n 1, 0, 0), (8, .iconst 1, 1, 0), (9, .iadd, 0, 0), (10, .iconst 4, 4, 0), (11, .imul, 0, 0), (12, .if_icmp .ge 33, 0, 45), (15, .iload_n 3, 0, 0)],
  [(16, .ifCond .lt 23, 0, 39), (19, .iload_n 3, 0, 0), (20, .aload_n 0, 0, 0), (21, .getfield 18, 0, 704), (24, .arraylength, 0, 0), (25, .if_icmp .ge 14, 0, 39), (28, .iload_n 2, 0, 0), (29, .aload_n 0, 0, 0), (30, .getfield 18, 0, 704)],
  [(33, .iload_n 3, 0, 0), (34, .iaload, 0, 0), (35, .invokestatic 71, 0, 21), (38, .istore_n 2, 0, 0), (39, .iinc 3 1, 1, 0), (42, .goto (-36), 0, 6), (45, .iload_n 2, 0, 0), (46, .ireturn, 0, 0)]]
def qp_k99 : List (List (Nat × Instr × Int32 × Nat)) := [
  [(0, .iload_n 1, 0, 0), (1, .ifCond .lt 9, 0, 10), (4, .iload_n 1, 0, 0), (5, .bipush 20, 20, 0), (7, .if_icmp .le 5, 0, 12), (10, .iconst (-1), (-1), 0), (11, .ireturn, 0, 0), (12, .aload_n 0, 0, 0), (13, .getfield 36, 0, 4)],
  [(16, .getfield 134, 0, 400), (19, .getfield 148, 0, 300), (22, .ifCond .ne 6, 0, 28), (25, .bipush (-4), (-4), 0), (27, .ireturn, 0, 0), (28, .aload_n 0, 0, 0), (29, .getfield 36, 0, 4)],
  [(32, .aload_n 0, 0, 0), (33, .getfield 36, 0, 4), (36, .getfield 153, 0, 402), (39, .invokevirtual 156, 0, 670), (42, .bipush (-9), (-9), 0), (44, .istore_n 2, 0, 0), (45, .iconst 0, 0, 0), (46, .istore_n 3, 0, 0), (47, .iconst 0, 0, 0)],
  [(48, .istore 4, 0, 0), (50, .iload 4, 0, 0), (52, .iconst 1, 1, 0), (53, .aload_n 0, 0, 0), (54, .getfield 36, 0, 4), (57, .getfield 134, 0, 400), (60, .getfield 148, 0, 300), (63, .ishl, 0, 0)],
  [(64, .if_icmp .ge 39, 0, 103), (67, .aload_n 0, 0, 0), (68, .getfield 36, 0, 4), (71, .getfield 172, 0, 401), (74, .iload 4, 0, 0), (76, .invokevirtual 260, 0, 1000), (79, .iload_n 1, 0, 0)],
  [(80, .if_icmp .ne 17, 0, 97), (83, .iload_n 3, 0, 0), (84, .ifCond .ne 8, 0, 92), (87, .iload 4, 0, 0), (89, .goto 4, 0, 93), (92, .iload_n 2, 0, 0), (93, .istore_n 2, 0, 0), (94, .iinc 3 1, 1, 0)],
  [(97, .iinc 4 1, 1, 0), (100, .goto (-50), 0, 50), (103, .aload_n 0, 0, 0), (104, .iload_n 2, 0, 0), (105, .invokevirtual 94, 0, 240), (108, .pop, 0, 0), (109, .aload_n 0, 0, 0), (110, .iload_n 3, 0, 0), (111, .i2l, 0, 0)],
  [(112, .lconst 1, 0, 0), (113, .invokevirtual 250, 0, 930), (116, .ireturn, 0, 0)]]
def qp_k100 : List (List (Nat × Instr × Int32 × Nat)) := [
  [(0, .iconst 0, 0, 0), (1, .istore_n 2, 0, 0), (2, .iconst 0, 0, 0), (3, .istore_n 3, 0, 0), (4, .iload_n 3, 0, 0), (5, .aload_n 0, 0, 0), (6, .getfield 24, 0, 502), (9, .getfield 76, 0, 300), (12, .if_icmp .ge 26, 0, 38), (15, .iload_n 1, 0, 0)],
  [(16, .iload_n 3, 0, 0), (17, .ishr, 0, 0), (18, .iconst 1, 1, 0), (19, .iand, 0, 0), (20, .iconst 1, 1, 0), (21, .if_icmp .ne 11, 0, 32), (24, .iload_n 2, 0, 0), (25, .aload_n 0, 0, 0), (26, .iload_n 3, 0, 0), (27, .invokevirtual 79, 0, 830), (30, .iadd, 0, 0), (31, .istore_n 2, 0, 0)],
  [(32, .iinc 3 1, 1, 0), (35, .goto (-31), 0, 4), (38, .iload_n 2, 0, 0), (39, .ireturn, 0, 0)]]
def qp_k101 : List (List (Nat × Instr × Int32 × Nat)) := [
  [(0, .iload_n 1, 0, 0), (1, .ifCond .lt 9, 0, 10), (4, .iload_n 1, 0, 0), (5, .bipush 20, 20, 0), (7, .if_icmp .le 5, 0, 12), (10, .iconst (-1), (-1), 0), (11, .ireturn, 0, 0), (12, .aload_n 0, 0, 0), (13, .getfield 36, 0, 4)],
  [(16, .getfield 134, 0, 400), (19, .getfield 148, 0, 300), (22, .ifCond .ne 6, 0, 28), (25, .bipush (-4), (-4), 0), (27, .ireturn, 0, 0), (28, .aload_n 0, 0, 0), (29, .getfield 36, 0, 4)],
  [(32, .aload_n 0, 0, 0), (33, .getfield 36, 0, 4), (36, .getfield 153, 0, 402), (39, .invokevirtual 156, 0, 670), (42, .iconst 1, 1, 0), (43, .aload_n 0, 0, 0), (44, .getfield 36, 0, 4), (47, .getfield 134, 0, 400)],
  [(50, .getfield 148, 0, 300), (53, .ishl, 0, 0), (54, .iconst 1, 1, 0), (55, .isub, 0, 0), (56, .istore_n 2, 0, 0), (57, .iconst 0, 0, 0), (58, .istore_n 3, 0, 0), (59, .iload_n 2, 0, 0), (60, .istore 4, 0, 0), (62, .iconst 0, 0, 0), (63, .istore 5, 0, 0)],
  [(65, .iconst 0, 0, 0), (66, .istore 6, 0, 0), (68, .iload 6, 0, 0), (70, .iload_n 2, 0, 0), (71, .if_icmp .gt 42, 0, 113), (74, .aload_n 0, 0, 0), (75, .getfield 36, 0, 4), (78, .getfield 172, 0, 401)],
  [(81, .iload 6, 0, 0), (83, .invokevirtual 260, 0, 1000), (86, .iload_n 1, 0, 0), (87, .if_icmp .ne 20, 0, 107), (90, .iload 4, 0, 0), (92, .iload 6, 0, 0), (94, .iand, 0, 0), (95, .istore 4, 0, 0)],
  [(97, .iload 5, 0, 0), (99, .iload 6, 0, 0), (101, .ior, 0, 0), (102, .istore 5, 0, 0), (104, .iinc 3 1, 1, 0), (107, .iinc 6 1, 1, 0), (110, .goto (-42), 0, 68)],
  [(113, .iload_n 3, 0, 0), (114, .ifCond .ne 9, 0, 123), (117, .aload_n 0, 0, 0), (118, .iconst 4, 4, 0), (119, .invokevirtual 110, 0, 140), (122, .ireturn, 0, 0), (123, .aload_n 0, 0, 0), (124, .iload_n 2, 0, 0), (125, .iload 5, 0, 0), (127, .iconst (-1), (-1), 0)],
  [(128, .ixor, 0, 0), (129, .iand, 0, 0), (130, .invokevirtual 94, 0, 240), (133, .pop, 0, 0), (134, .iload 4, 0, 0), (136, .ireturn, 0, 0)]]
def qp_k102 : List (List (Nat × Instr × Int32 × Nat)) := [
  [(0, .aload_n 0, 0, 0), (1, .getfield 36, 0, 4), (4, .getfield 134, 0, 400), (7, .iload_n 1, 0, 0), (8, .invokevirtual 152, 0, 430), (11, .ifCond .eq 31, 0, 42), (14, .aload_n 0, 0, 0), (15, .getfield 36, 0, 4)],
  [(18, .getfield 134, 0, 400), (21, .iload_n 2, 0, 0), (22, .invokevirtual 152, 0, 430), (25, .ifCond .eq 17, 0, 42), (28, .iload_n 1, 0, 0), (29, .iload_n 2, 0, 0), (30, .if_icmp .eq 12, 0, 42)],
  [(33, .iload_n 3, 0, 0), (34, .ifCond .lt 8, 0, 42), (37, .iload_n 3, 0, 0), (38, .iconst 2, 2, 0), (39, .if_icmp .le 5, 0, 44), (42, .iconst (-1), (-1), 0), (43, .ireturn, 0, 0), (44, .aload_n 0, 0, 0), (45, .aload_n 0, 0, 0), (46, .getfield 59, 0, 7)],
  [(49, .iload_n 1, 0, 0), (50, .iload_n 2, 0, 0), (51, .iload_n 3, 0, 0), (52, .invokevirtual 263, 0, 1030), (55, .invokevirtual 94, 0, 240), (58, .ireturn, 0, 0)]]
def qp_k103 : List (List (Nat × Instr × Int32 × Nat)) := [
  [(0, .aload_n 0, 0, 0), (1, .iload_n 1, 0, 0), (2, .putfield 13, 0, 801), (5, .aload_n 0, 0, 0), (6, .iload_n 2, 0, 0), (7, .putfield 17, 0, 802), (10, .aload_n 0, 0, 0), (11, .aload_n 0, 0, 0), (12, .getfield 7, 0, 800), (15, .getfield 20, 0, 402)],
  [(18, .iconst 2, 2, 0), (19, .iload_n 3, 0, 0), (20, .imul, 0, 0), (21, .invokestatic 25, 0, 1041), (24, .ireturn, 0, 0)]]
def qp_k104 : List (List (Nat × Instr × Int32 × Nat)) := [
  [(0, .iload_n 2, 0, 0), (1, .ifCond .gt 9, 0, 10), (4, .aload_n 0, 0, 0), (5, .iload_n 1, 0, 0), (6, .invokevirtual 29, 0, 1050), (9, .ireturn, 0, 0), (10, .iload_n 2, 0, 0), (11, .iconst 2, 2, 0), (12, .irem, 0, 0), (13, .ifCond .ne 7, 0, 20)],
  [(16, .iconst 1, 1, 0), (17, .goto 4, 0, 21), (20, .iconst 0, 0, 0), (21, .istore_n 3, 0, 0), (22, .iload_n 3, 0, 0), (23, .ifCond .eq 10, 0, 33), (26, .aload_n 0, 0, 0), (27, .getfield 13, 0, 801), (30, .goto 7, 0, 37)],
  [(33, .aload_n 0, 0, 0), (34, .getfield 17, 0, 802), (37, .istore 4, 0, 0), (39, .aload_n 0, 0, 0), (40, .getfield 7, 0, 800), (43, .getfield 33, 0, 400), (46, .getfield 37, 0, 300)],
  [(49, .istore 5, 0, 0), (51, .iconst 0, 0, 0), (52, .istore 6, 0, 0), (54, .iconst 0, 0, 0), (55, .istore 7, 0, 0), (57, .iload 7, 0, 0), (59, .iload 5, 0, 0), (61, .if_icmp .ge 62, 0, 123)],
  [(64, .aload_n 0, 0, 0), (65, .iload_n 1, 0, 0), (66, .iload 5, 0, 0), (68, .bipush 8, 8, 0), (70, .iload 4, 0, 0), (72, .imul, 0, 0), (73, .iload 7, 0, 0), (75, .iadd, 0, 0), (76, .invokestatic 42, 0, 501), (79, .iload_n 2, 0, 0)],
  [(80, .iconst 1, 1, 0), (81, .isub, 0, 0), (82, .invokestatic 25, 0, 1041), (85, .istore 8, 0, 0), (87, .iload 7, 0, 0), (89, .ifCond .eq 24, 0, 113), (92, .iload_n 3, 0, 0), (93, .ifCond .eq 13, 0, 106)],
  [(96, .iload 8, 0, 0), (98, .iload 6, 0, 0), (100, .if_icmp .le 17, 0, 117), (103, .goto 10, 0, 113), (106, .iload 8, 0, 0), (108, .iload 6, 0, 0), (110, .if_icmp .ge 7, 0, 117)],
  [(113, .iload 8, 0, 0), (115, .istore 6, 0, 0), (117, .iinc 7 1, 1, 0), (120, .goto (-63), 0, 57), (123, .iload 6, 0, 0), (125, .ireturn, 0, 0)]]
def qp_k105 : List (List (Nat × Instr × Int32 × Nat)) := [
  [(0, .aload_n 0, 0, 0), (1, .getfield 7, 0, 800), (4, .iload_n 1, 0, 0), (5, .invokevirtual 48, 0, 670), (8, .aload_n 0, 0, 0), (9, .getfield 7, 0, 800), (12, .getfield 52, 0, 401), (15, .aload_n 0, 0, 0)],
  [(16, .getfield 13, 0, 801), (19, .invokevirtual 56, 0, 720), (22, .aload_n 0, 0, 0), (23, .getfield 7, 0, 800), (26, .getfield 52, 0, 401), (29, .aload_n 0, 0, 0), (30, .getfield 17, 0, 802)],
  [(33, .invokevirtual 56, 0, 720), (36, .isub, 0, 0), (37, .ireturn, 0, 0)]]
def qp_k106 : List (List (Nat × Instr × Int32 × Nat)) := [
  [(0, .aload_n 0, 0, 0), (1, .getfield 36, 0, 4), (4, .getfield 134, 0, 400), (7, .iload_n 1, 0, 0), (8, .invokevirtual 152, 0, 430), (11, .ifCond .eq 13, 0, 24), (14, .iload_n 2, 0, 0), (15, .ifCond .lt 9, 0, 24)],
  [(18, .iload_n 2, 0, 0), (19, .bipush 12, 12, 0), (21, .if_icmp .le 5, 0, 26), (24, .iconst (-1), (-1), 0), (25, .ireturn, 0, 0), (26, .aload_n 0, 0, 0), (27, .aload_n 0, 0, 0), (28, .getfield 66, 0, 8), (31, .iload_n 1, 0, 0)],
  [(32, .iload_n 2, 0, 0), (33, .invokevirtual 266, 0, 1070), (36, .aload_n 0, 0, 0), (37, .getfield 66, 0, 8), (40, .invokevirtual 270, 0, 1110), (43, .invokevirtual 250, 0, 930), (46, .ireturn, 0, 0)]]
def qp_k107 : List (List (Nat × Instr × Int32 × Nat)) := [
  [(0, .lconst 0, 0, 0), (1, .lstore_n 3, 0, 0), (2, .iconst 0, 0, 0), (3, .istore 5, 0, 0), (5, .iload 5, 0, 0), (7, .iconst 1, 1, 0), (8, .aload_n 0, 0, 0), (9, .getfield 9, 0, 900), (12, .getfield 15, 0, 400), (15, .getfield 21, 0, 300)],
  [(18, .ishl, 0, 0), (19, .if_icmp .ge 39, 0, 58), (22, .aload_n 0, 0, 0), (23, .iload 5, 0, 0), (25, .invokevirtual 31, 0, 1080), (28, .lload_n 3, 0, 0), (29, .aload_n 0, 0, 0), (30, .iload_n 2, 0, 0), (31, .invokevirtual 35, 0, 1090)],
  [(34, .aload_n 0, 0, 0), (35, .getfield 9, 0, 900), (38, .getfield 39, 0, 401), (41, .getfield 43, 0, 501), (44, .iload_n 1, 0, 0), (45, .ishr, 0, 0), (46, .iconst 1, 1, 0), (47, .iand, 0, 0)],
  [(48, .i2l, 0, 0), (49, .lmul, 0, 0), (50, .ladd, 0, 0), (51, .lstore_n 3, 0, 0), (52, .iinc 5 1, 1, 0), (55, .goto (-50), 0, 5), (58, .lload_n 3, 0, 0), (59, .lreturn, 0, 0)]]
def qp_k108 : List (List (Nat × Instr × Int32 × Nat)) := [
  [(0, .iconst 0, 0, 0), (1, .istore_n 2, 0, 0), (2, .aload_n 0, 0, 0), (3, .iconst 0, 0, 0), (4, .putfield 52, 0, 901), (7, .iconst 0, 0, 0), (8, .istore_n 3, 0, 0), (9, .iload_n 3, 0, 0), (10, .aload_n 0, 0, 0), (11, .getfield 9, 0, 900), (14, .getfield 15, 0, 400)],
  [(17, .getfield 21, 0, 300), (20, .if_icmp .ge 53, 0, 73), (23, .aload_n 0, 0, 0), (24, .getfield 9, 0, 900), (27, .getfield 53, 0, 402), (30, .iload_n 3, 0, 0), (31, .invokestatic 56, 0, 471)],
  [(34, .istore 4, 0, 0), (36, .iload_n 1, 0, 0), (37, .iload 4, 0, 0), (39, .ishr, 0, 0), (40, .iconst 1, 1, 0), (41, .iand, 0, 0), (42, .iconst 1, 1, 0), (43, .if_icmp .ne 24, 0, 67), (46, .iload_n 2, 0, 0), (47, .aload_n 0, 0, 0)],
  [(48, .getfield 52, 0, 901), (51, .iload 4, 0, 0), (53, .invokestatic 62, 0, 401), (56, .istore_n 2, 0, 0), (57, .aload_n 0, 0, 0), (58, .dup, 0, 0), (59, .getfield 52, 0, 901), (62, .iconst 1, 1, 0), (63, .iadd, 0, 0)],
  [(64, .putfield 52, 0, 901), (67, .iinc 3 1, 1, 0), (70, .goto (-61), 0, 9), (73, .aload_n 0, 0, 0), (74, .getfield 9, 0, 900), (77, .getfield 39, 0, 401)],
  [(80, .iload_n 2, 0, 0), (81, .aload_n 0, 0, 0), (82, .getfield 52, 0, 901), (85, .aload_n 0, 0, 0), (86, .getfield 9, 0, 900), (89, .getfield 66, 0, 403), (92, .invokevirtual 69, 0, 680), (95, .return_, 0, 0)]]
def qp_k109 : List (List (Nat × Instr × Int32 × Nat)) := [
  [(0, .bipush 12, 12, 0), (2, .iload_n 1, 0, 0), (3, .isub, 0, 0), (4, .aload_n 0, 0, 0), (5, .getfield 52, 0, 901), (8, .invokestatic 27, 0, 1101), (11, .iload_n 1, 0, 0), (12, .aload_n 0, 0, 0), (13, .getfield 9, 0, 900)],
  [(16, .getfield 15, 0, 400), (19, .getfield 21, 0, 300), (22, .aload_n 0, 0, 0), (23, .getfield 52, 0, 901), (26, .isub, 0, 0), (27, .invokestatic 27, 0, 1101), (30, .lmul, 0, 0), (31, .lreturn, 0, 0)]]
def qp_k110 : List (List (Nat × Instr × Int32 × Nat)) := [
  [(0, .lconst 1, 0, 0), (1, .lstore_n 2, 0, 0), (2, .iconst 0, 0, 0), (3, .istore 4, 0, 0), (5, .iload 4, 0, 0), (7, .iload_n 1, 0, 0), (8, .if_icmp .ge 14, 0, 22), (11, .lload_n 2, 0, 0), (12, .iload_n 0, 0, 0), (13, .i2l, 0, 0), (14, .lmul, 0, 0), (15, .lstore_n 2, 0, 0)],
  [(16, .iinc 4 1, 1, 0), (19, .goto (-14), 0, 5), (22, .lload_n 2, 0, 0), (23, .lreturn, 0, 0)]]
def qp_k111 : List (List (Nat × Instr × Int32 × Nat)) := [
  [(0, .bipush 12, 12, 0), (2, .aload_n 0, 0, 0), (3, .getfield 9, 0, 900), (6, .getfield 15, 0, 400), (9, .getfield 21, 0, 300), (12, .invokestatic 27, 0, 1101), (15, .lreturn, 0, 0)]]
def qp_k112 : List (List (Nat × Instr × Int32 × Nat)) := [
  [(0, .iload_n 1, 0, 0), (1, .ifCond .lt 9, 0, 10), (4, .iload_n 1, 0, 0), (5, .bipush 12, 12, 0), (7, .if_icmp .le 5, 0, 12), (10, .iconst (-1), (-1), 0), (11, .ireturn, 0, 0), (12, .aload_n 0, 0, 0), (13, .getfield 36, 0, 4)],
  [(16, .getfield 134, 0, 400), (19, .getfield 148, 0, 300), (22, .ifCond .ne 6, 0, 28), (25, .bipush (-4), (-4), 0), (27, .ireturn, 0, 0), (28, .aload_n 0, 0, 0), (29, .aload_n 0, 0, 0), (30, .getfield 66, 0, 8)],
  [(33, .iload_n 1, 0, 0), (34, .invokevirtual 274, 0, 1130), (37, .aload_n 0, 0, 0), (38, .getfield 66, 0, 8), (41, .invokevirtual 270, 0, 1110), (44, .invokevirtual 250, 0, 930), (47, .ireturn, 0, 0)]]
def qp_k113 : List (List (Nat × Instr × Int32 × Nat)) := [
  [(0, .lconst 0, 0, 0), (1, .lstore_n 2, 0, 0), (2, .iconst 0, 0, 0), (3, .istore 4, 0, 0), (5, .iload 4, 0, 0), (7, .iconst 1, 1, 0), (8, .aload_n 0, 0, 0), (9, .getfield 9, 0, 900), (12, .getfield 15, 0, 400), (15, .getfield 21, 0, 300)],
  [(18, .ishl, 0, 0), (19, .if_icmp .ge 35, 0, 54), (22, .aload_n 0, 0, 0), (23, .iload 4, 0, 0), (25, .invokevirtual 31, 0, 1080), (28, .lload_n 2, 0, 0), (29, .aload_n 0, 0, 0), (30, .iload_n 1, 0, 0), (31, .invokevirtual 35, 0, 1090)],
  [(34, .aload_n 0, 0, 0), (35, .getfield 9, 0, 900), (38, .getfield 39, 0, 401), (41, .invokevirtual 48, 0, 1140), (44, .i2l, 0, 0), (45, .lmul, 0, 0), (46, .ladd, 0, 0), (47, .lstore_n 2, 0, 0)],
  [(48, .iinc 4 1, 1, 0), (51, .goto (-46), 0, 5), (54, .lload_n 2, 0, 0), (55, .lreturn, 0, 0)]]
def qp_k114 : List (List (Nat × Instr × Int32 × Nat)) := [
  [(0, .aload_n 0, 0, 0), (1, .getfield 32, 0, 504), (4, .ireturn, 0, 0)]]
def qp_k115 : List (List (Nat × Instr × Int32 × Nat)) := [
  [(0, .iload_n 1, 0, 0), (1, .iconst 1, 1, 0), (2, .if_icmp .lt 21, 0, 23), (5, .iload_n 1, 0, 0), (6, .bipush 20, 20, 0), (8, .if_icmp .gt 15, 0, 23), (11, .iload_n 2, 0, 0), (12, .iconst 1, 1, 0), (13, .if_icmp .lt 10, 0, 23)],
  [(16, .iload_n 2, 0, 0), (17, .ldc_w 277, 2147483647, 0), (20, .if_icmp .lt 5, 0, 25), (23, .iconst (-1), (-1), 0), (24, .ireturn, 0, 0), (25, .aload_n 0, 0, 0), (26, .getfield 36, 0, 4), (29, .getfield 134, 0, 400)],
  [(32, .getfield 148, 0, 300), (35, .ifCond .ne 6, 0, 41), (38, .bipush (-4), (-4), 0), (40, .ireturn, 0, 0), (41, .aload_n 0, 0, 0), (42, .getfield 36, 0, 4), (45, .getfield 196, 0, 405)],
  [(48, .iload_n 1, 0, 0), (49, .iadd, 0, 0), (50, .bipush 40, 40, 0), (52, .if_icmp .le 6, 0, 58), (55, .bipush (-2), (-2), 0), (57, .ireturn, 0, 0), (58, .iload_n 2, 0, 0), (59, .i2l, 0, 0), (60, .lstore_n 3, 0, 0), (61, .iconst 0, 0, 0), (62, .istore 5, 0, 0)],
  [(64, .iload 5, 0, 0), (66, .iload_n 1, 0, 0), (67, .if_icmp .ge 28, 0, 95), (70, .lload_n 3, 0, 0), (71, .ldc2_w 278, 0, 0), (74, .lmul, 0, 0), (75, .ldc2_w 280, 0, 0), (78, .lrem, 0, 0), (79, .lstore_n 3, 0, 0)],
  [(80, .aload_n 0, 0, 0), (81, .getfield 36, 0, 4), (84, .lload_n 3, 0, 0), (85, .l2i, 0, 0), (86, .invokevirtual 282, 0, 1160), (89, .iinc 5 1, 1, 0), (92, .goto (-28), 0, 64), (95, .aload_n 0, 0, 0)],
  [(96, .getfield 36, 0, 4), (99, .aload_n 0, 0, 0), (100, .getfield 36, 0, 4), (103, .getfield 153, 0, 402), (106, .invokevirtual 156, 0, 670), (109, .aload_n 0, 0, 0), (110, .getfield 36, 0, 4)],
  [(113, .getfield 172, 0, 401), (116, .invokevirtual 285, 0, 1170), (119, .ireturn, 0, 0)]]
def qp_k116 : List (List (Nat × Instr × Int32 × Nat)) := [
  [(0, .aload_n 0, 0, 0), (1, .getfield 12, 0, 400), (4, .getfield 34, 0, 300), (7, .ifCond .ne 4, 0, 11), (10, .return_, 0, 0), (11, .iload_n 1, 0, 0), (12, .bipush 8, 8, 0), (14, .idiv, 0, 0), (15, .bipush 8, 8, 0)],
  [(17, .irem, 0, 0), (18, .istore_n 2, 0, 0), (19, .iload_n 1, 0, 0), (20, .bipush 64, 64, 0), (22, .idiv, 0, 0), (23, .istore_n 3, 0, 0), (24, .iload_n 2, 0, 0), (25, .bipush 7, 7, 0), (27, .if_icmp .ne 15, 0, 42), (30, .aload_n 0, 0, 0), (31, .iconst 3, 3, 0)],
  [(32, .iload_n 3, 0, 0), (33, .bipush 21, 21, 0), (35, .irem, 0, 0), (36, .invokevirtual 97, 0, 480), (39, .goto 101, 0, 140), (42, .iload_n 2, 0, 0), (43, .bipush 6, 6, 0), (45, .if_icmp .ne 24, 0, 69)],
  [(48, .aload_n 0, 0, 0), (49, .getfield 51, 0, 404), (52, .ifCond .le 17, 0, 69), (55, .aload_n 0, 0, 0), (56, .iconst 2, 2, 0), (57, .iload_n 3, 0, 0), (58, .aload_n 0, 0, 0), (59, .getfield 51, 0, 404), (62, .irem, 0, 0), (63, .invokevirtual 97, 0, 480)],
  [(66, .goto 74, 0, 140), (69, .iload_n 2, 0, 0), (70, .bipush 6, 6, 0), (72, .if_icmp .ge 62, 0, 134), (75, .aload_n 0, 0, 0), (76, .bipush 8, 8, 0), (78, .iload_n 1, 0, 0), (79, .aload_n 0, 0, 0)],
  [(80, .getfield 12, 0, 400), (83, .getfield 34, 0, 300), (86, .irem, 0, 0), (87, .imul, 0, 0), (88, .iload_n 3, 0, 0), (89, .aload_n 0, 0, 0), (90, .getfield 12, 0, 400), (93, .getfield 34, 0, 300)],
  [(96, .irem, 0, 0), (97, .iadd, 0, 0), (98, .invokevirtual 101, 0, 440), (101, .ifCond .eq 33, 0, 134), (104, .aload_n 0, 0, 0), (105, .iconst 1, 1, 0), (106, .bipush 8, 8, 0), (108, .iload_n 1, 0, 0), (109, .aload_n 0, 0, 0), (110, .getfield 12, 0, 400)],
  [(113, .getfield 34, 0, 300), (116, .irem, 0, 0), (117, .imul, 0, 0), (118, .iload_n 3, 0, 0), (119, .aload_n 0, 0, 0), (120, .getfield 12, 0, 400), (123, .getfield 34, 0, 300), (126, .irem, 0, 0), (127, .iadd, 0, 0)],
  [(128, .invokevirtual 97, 0, 480), (131, .goto 9, 0, 140), (134, .aload_n 0, 0, 0), (135, .iconst 0, 0, 0), (136, .iconst 0, 0, 0), (137, .invokevirtual 97, 0, 480), (140, .return_, 0, 0)]]
def qp_k117 : List (List (Nat × Instr × Int32 × Nat)) := [
  [(0, .aload_n 0, 0, 0), (1, .getfield 28, 0, 503), (4, .aload_n 0, 0, 0), (5, .getfield 32, 0, 504), (8, .isub, 0, 0), (9, .ireturn, 0, 0)]]
def qp_k118 : List (List (Nat × Instr × Int32 × Nat)) := [
  [(0, .aload_n 0, 0, 0), (1, .getfield 289, 0, 11), (4, .ireturn, 0, 0)]]
def qp_k119 : List (List (Nat × Instr × Int32 × Nat)) := [
  [(0, .aload_n 0, 0, 0), (1, .getfield 292, 0, 12), (4, .lreturn, 0, 0)]]
def qp_k120 : List (List (Nat × Instr × Int32 × Nat)) := [
  [(0, .aload_n 0, 0, 0), (1, .getfield 74, 0, 13), (4, .lreturn, 0, 0)]]
def qp_k121 : List (List (Nat × Instr × Int32 × Nat)) := [
  [(0, .iload_n 1, 0, 0), (1, .ifCond .lt 9, 0, 10), (4, .iload_n 1, 0, 0), (5, .bipush 11, 11, 0), (7, .if_icmp .le 5, 0, 12), (10, .iconst (-1), (-1), 0), (11, .ireturn, 0, 0), (12, .aload_n 0, 0, 0), (13, .getfield 36, 0, 4)],
  [(16, .aload_n 0, 0, 0), (17, .getfield 36, 0, 4), (20, .getfield 153, 0, 402), (23, .invokevirtual 156, 0, 670), (26, .aload_n 0, 0, 0), (27, .iload_n 1, 0, 0), (28, .invokevirtual 295, 0, 1220), (31, .ireturn, 0, 0)]]
def qp_k122 : List (List (Nat × Instr × Int32 × Nat)) := [
  [(0, .iload_n 1, 0, 0), (1, .tableswitch 167 0 10 #[59, 70, 78, 86, 94, 105, 116, 127, 139, 151, 159], 0, 59)],
  [],
  [],
  [(60, .aload_n 0, 0, 0), (61, .getfield 36, 0, 4)],
  [(64, .getfield 134, 0, 400), (67, .getfield 148, 0, 300), (70, .ireturn, 0, 0), (71, .aload_n 0, 0, 0), (72, .getfield 36, 0, 4), (75, .getfield 209, 0, 403), (78, .ireturn, 0, 0), (79, .aload_n 0, 0, 0)],
  [(80, .getfield 36, 0, 4), (83, .getfield 190, 0, 404), (86, .ireturn, 0, 0), (87, .aload_n 0, 0, 0), (88, .getfield 36, 0, 4), (91, .getfield 196, 0, 405), (94, .ireturn, 0, 0), (95, .aload_n 0, 0, 0)],
  [(96, .getfield 36, 0, 4), (99, .getfield 172, 0, 401), (102, .getfield 328, 0, 500), (105, .ireturn, 0, 0), (106, .aload_n 0, 0, 0), (107, .getfield 36, 0, 4), (110, .getfield 172, 0, 401)],
  [(113, .invokevirtual 285, 0, 1170), (116, .ireturn, 0, 0), (117, .aload_n 0, 0, 0), (118, .getfield 36, 0, 4), (121, .getfield 172, 0, 401), (124, .getfield 331, 0, 501), (127, .ireturn, 0, 0)],
  [(128, .aload_n 0, 0, 0), (129, .getfield 36, 0, 4), (132, .getfield 134, 0, 400), (135, .iconst 1, 1, 0), (136, .invokevirtual 334, 0, 1230), (139, .ireturn, 0, 0), (140, .aload_n 0, 0, 0), (141, .getfield 36, 0, 4)],
  [(144, .getfield 134, 0, 400), (147, .iconst 2, 2, 0), (148, .invokevirtual 334, 0, 1230), (151, .ireturn, 0, 0), (152, .aload_n 0, 0, 0), (153, .getfield 14, 0, 0), (156, .invokevirtual 337, 0, 1240), (159, .ireturn, 0, 0)],
  [(160, .aload_n 0, 0, 0), (161, .getfield 18, 0, 1), (164, .invokevirtual 337, 0, 1240), (167, .ireturn, 0, 0), (168, .aload_n 0, 0, 0), (169, .getfield 21, 0, 2), (172, .invokevirtual 337, 0, 1240), (175, .ireturn, 0, 0)]]
def qp_k123 : List (List (Nat × Instr × Int32 × Nat)) := [
  [(0, .iconst 0, 0, 0), (1, .istore_n 2, 0, 0), (2, .iconst 0, 0, 0), (3, .istore_n 3, 0, 0), (4, .iload_n 3, 0, 0), (5, .aload_n 0, 0, 0), (6, .getfield 18, 0, 300), (9, .if_icmp .ge 24, 0, 33), (12, .aload_n 0, 0, 0), (13, .iload_n 3, 0, 0), (14, .invokevirtual 28, 0, 360)],
  [(17, .iload_n 1, 0, 0), (18, .invokestatic 39, 0, 691), (21, .ifCond .eq 6, 0, 27), (24, .iinc 2 1, 1, 0), (27, .iinc 3 1, 1, 0), (30, .goto (-26), 0, 4)],
  [(33, .iload_n 2, 0, 0), (34, .ireturn, 0, 0)]]
def qp_k124 : List (List (Nat × Instr × Int32 × Nat)) := [
  [(0, .iconst 0, 0, 0), (1, .istore_n 1, 0, 0), (2, .iconst 0, 0, 0), (3, .istore_n 2, 0, 0), (4, .iload_n 2, 0, 0), (5, .aload_n 0, 0, 0), (6, .getfield 19, 0, 101), (9, .arraylength, 0, 0), (10, .if_icmp .ge 20, 0, 30), (13, .aload_n 0, 0, 0), (14, .iload_n 2, 0, 0), (15, .invokevirtual 34, 0, 210)],
  [(18, .ifCond .eq 6, 0, 24), (21, .iinc 1 1, 1, 0), (24, .iinc 2 1, 1, 0), (27, .goto (-23), 0, 4), (30, .iload_n 1, 0, 0), (31, .ireturn, 0, 0)]]
def qp_k125 : List (List (Nat × Instr × Int32 × Nat)) := [
  [(0, .aload_n 0, 0, 0), (1, .getfield 36, 0, 4), (4, .aload_n 0, 0, 0), (5, .getfield 36, 0, 4), (8, .getfield 153, 0, 402), (11, .invokevirtual 156, 0, 670), (14, .ldc2_w 301, 0, 0)],
  [(17, .lstore_n 1, 0, 0), (18, .iconst 0, 0, 0), (19, .istore_n 3, 0, 0), (20, .iload_n 3, 0, 0), (21, .bipush 11, 11, 0), (23, .if_icmp .gt 22, 0, 45), (26, .ldc2_w 303, 0, 0), (29, .lload_n 1, 0, 0), (30, .lmul, 0, 0), (31, .aload_n 0, 0, 0)],
  [(32, .iload_n 3, 0, 0), (33, .invokevirtual 295, 0, 1220), (36, .i2l, 0, 0), (37, .ladd, 0, 0), (38, .lstore_n 1, 0, 0), (39, .iinc 3 1, 1, 0), (42, .goto (-22), 0, 20), (45, .iconst 0, 0, 0), (46, .istore_n 3, 0, 0), (47, .iload_n 3, 0, 0)],
  [(48, .aload_n 0, 0, 0), (49, .getfield 36, 0, 4), (52, .getfield 134, 0, 400), (55, .getfield 148, 0, 300), (58, .if_icmp .ge 40, 0, 98), (61, .iconst 0, 0, 0), (62, .istore 4, 0, 0)],
  [(64, .iload 4, 0, 0), (66, .bipush 6, 6, 0), (68, .if_icmp .gt 24, 0, 92), (71, .ldc2_w 303, 0, 0), (74, .lload_n 1, 0, 0), (75, .lmul, 0, 0), (76, .aload_n 0, 0, 0), (77, .iload_n 3, 0, 0), (78, .iload 4, 0, 0)],
  [(80, .invokevirtual 159, 0, 1260), (83, .i2l, 0, 0), (84, .ladd, 0, 0), (85, .lstore_n 1, 0, 0), (86, .iinc 4 1, 1, 0), (89, .goto (-25), 0, 64), (92, .iinc 3 1, 1, 0), (95, .goto (-48), 0, 47)],
  [(98, .iconst 0, 0, 0), (99, .istore_n 3, 0, 0), (100, .iload_n 3, 0, 0), (101, .aload_n 0, 0, 0), (102, .getfield 36, 0, 4), (105, .getfield 190, 0, 404), (108, .if_icmp .ge 47, 0, 155), (111, .ldc2_w 303, 0, 0)],
  [(114, .lload_n 1, 0, 0), (115, .lmul, 0, 0), (116, .aload_n 0, 0, 0), (117, .getfield 36, 0, 4), (120, .iload_n 3, 0, 0), (121, .invokevirtual 226, 0, 1290), (124, .bipush 8, 8, 0), (126, .idiv, 0, 0), (127, .i2l, 0, 0)],
  [(128, .ladd, 0, 0), (129, .lstore_n 1, 0, 0), (130, .ldc2_w 303, 0, 0), (133, .lload_n 1, 0, 0), (134, .lmul, 0, 0), (135, .aload_n 0, 0, 0), (136, .getfield 36, 0, 4), (139, .iload_n 3, 0, 0), (140, .invokevirtual 226, 0, 1290), (143, .bipush 8, 8, 0)],
  [(145, .irem, 0, 0), (146, .i2l, 0, 0), (147, .ladd, 0, 0), (148, .lstore_n 1, 0, 0), (149, .iinc 3 1, 1, 0), (152, .goto (-52), 0, 100), (155, .iconst 0, 0, 0), (156, .istore_n 3, 0, 0), (157, .iload_n 3, 0, 0), (158, .iconst 3, 3, 0), (159, .if_icmp .ge 25, 0, 184)],
  [(162, .ldc2_w 303, 0, 0), (165, .lload_n 1, 0, 0), (166, .lmul, 0, 0), (167, .aload_n 0, 0, 0), (168, .getfield 21, 0, 2), (171, .iload_n 3, 0, 0), (172, .invokevirtual 124, 0, 220), (175, .i2l, 0, 0)],
  [(176, .ladd, 0, 0), (177, .lstore_n 1, 0, 0), (178, .iinc 3 1, 1, 0), (181, .goto (-24), 0, 157), (184, .aload_n 0, 0, 0), (185, .getfield 18, 0, 1), (188, .aload_n 0, 0, 0), (189, .getfield 14, 0, 0)],
  [(192, .lload_n 1, 0, 0), (193, .invokevirtual 305, 0, 1300), (196, .invokevirtual 305, 0, 1300), (199, .lreturn, 0, 0)]]
def qp_k126 : List (List (Nat × Instr × Int32 × Nat)) := [
  [(0, .iload_n 2, 0, 0), (1, .tableswitch 108 0 5 #[39, 51, 63, 72, 84, 96], 0, 39)],
  [],
  [(40, .aload_n 0, 0, 0), (41, .getfield 36, 0, 4), (44, .getfield 134, 0, 400), (47, .iload_n 1, 0, 0)],
  [(48, .invokevirtual 162, 0, 360), (51, .ireturn, 0, 0), (52, .aload_n 0, 0, 0), (53, .getfield 36, 0, 4), (56, .getfield 134, 0, 400), (59, .iload_n 1, 0, 0), (60, .invokevirtual 319, 0, 370), (63, .ireturn, 0, 0)],
  [(64, .aload_n 0, 0, 0), (65, .getfield 36, 0, 4), (68, .iload_n 1, 0, 0), (69, .invokevirtual 187, 0, 450), (72, .ireturn, 0, 0), (73, .aload_n 0, 0, 0), (74, .getfield 36, 0, 4), (77, .getfield 172, 0, 401)],
  [(80, .iload_n 1, 0, 0), (81, .invokevirtual 181, 0, 830), (84, .ireturn, 0, 0), (85, .aload_n 0, 0, 0), (86, .getfield 36, 0, 4), (89, .getfield 172, 0, 401), (92, .iload_n 1, 0, 0), (93, .invokevirtual 184, 0, 720)],
  [(96, .ireturn, 0, 0), (97, .aload_n 0, 0, 0), (98, .getfield 36, 0, 4), (101, .getfield 172, 0, 401), (104, .iload_n 1, 0, 0), (105, .invokevirtual 322, 0, 1270), (108, .ireturn, 0, 0), (109, .aload_n 0, 0, 0), (110, .getfield 36, 0, 4)],
  [(113, .iload_n 1, 0, 0), (114, .invokevirtual 325, 0, 1280), (117, .ireturn, 0, 0)]]
def qp_k127 : List (List (Nat × Instr × Int32 × Nat)) := [
  [(0, .iload_n 1, 0, 0), (1, .ifCond .lt 21, 0, 22), (4, .iload_n 1, 0, 0), (5, .aload_n 0, 0, 0), (6, .getfield 18, 0, 508), (9, .arraylength, 0, 0), (10, .if_icmp .ge 12, 0, 22), (13, .aload_n 0, 0, 0), (14, .getfield 18, 0, 508)],
  [(17, .iload_n 1, 0, 0), (18, .iaload, 0, 0), (19, .goto 4, 0, 23), (22, .iconst 0, 0, 0), (23, .ireturn, 0, 0)]]
def qp_k128 : List (List (Nat × Instr × Int32 × Nat)) := [
  [(0, .iconst 0, 0, 0), (1, .istore_n 2, 0, 0), (2, .iconst 0, 0, 0), (3, .istore_n 3, 0, 0), (4, .iload_n 3, 0, 0), (5, .aload_n 0, 0, 0), (6, .getfield 12, 0, 400), (9, .getfield 34, 0, 300), (12, .if_icmp .ge 34, 0, 46), (15, .aload_n 0, 0, 0)],
  [(16, .getfield 44, 0, 402), (19, .aload_n 0, 0, 0), (20, .getfield 12, 0, 400), (23, .getfield 34, 0, 300), (26, .iload_n 1, 0, 0), (27, .iload_n 3, 0, 0), (28, .invokestatic 83, 0, 811), (31, .ifCond .eq 9, 0, 40)],
  [(34, .iload_n 2, 0, 0), (35, .iconst 1, 1, 0), (36, .iload_n 3, 0, 0), (37, .ishl, 0, 0), (38, .ior, 0, 0), (39, .istore_n 2, 0, 0), (40, .iinc 3 1, 1, 0), (43, .goto (-39), 0, 4), (46, .iload_n 2, 0, 0), (47, .ireturn, 0, 0)]]
def qp_k129 : List (List (Nat × Instr × Int32 × Nat)) := [
  [(0, .iload_n 1, 0, 0), (1, .ifCond .lt 21, 0, 22), (4, .iload_n 1, 0, 0), (5, .aload_n 0, 0, 0), (6, .getfield 27, 0, 406), (9, .arraylength, 0, 0), (10, .if_icmp .ge 12, 0, 22), (13, .aload_n 0, 0, 0), (14, .getfield 27, 0, 406)],
  [(17, .iload_n 1, 0, 0), (18, .iaload, 0, 0), (19, .goto 4, 0, 23), (22, .iconst 0, 0, 0), (23, .ireturn, 0, 0)]]
def qp_k130 : List (List (Nat × Instr × Int32 × Nat)) := [
  [(0, .lload_n 1, 0, 0), (1, .lstore_n 3, 0, 0), (2, .iconst 0, 0, 0), (3, .istore 5, 0, 0), (5, .iload 5, 0, 0), (7, .aload_n 0, 0, 0), (8, .getfield 19, 0, 101), (11, .arraylength, 0, 0), (12, .if_icmp .ge 59, 0, 71), (15, .ldc2_w 61, 0, 0)],
  [(18, .lload_n 3, 0, 0), (19, .lmul, 0, 0), (20, .aload_n 0, 0, 0), (21, .iload 5, 0, 0), (23, .invokevirtual 30, 0, 220), (26, .i2l, 0, 0), (27, .ladd, 0, 0), (28, .lstore_n 3, 0, 0), (29, .iconst 0, 0, 0), (30, .istore 6, 0, 0)],
  [(32, .iload 6, 0, 0), (34, .aload_n 0, 0, 0), (35, .iload 5, 0, 0), (37, .invokevirtual 30, 0, 220), (40, .if_icmp .ge 25, 0, 65), (43, .ldc2_w 61, 0, 0), (46, .lload_n 3, 0, 0), (47, .lmul, 0, 0)],
  [(48, .aload_n 0, 0, 0), (49, .iload 5, 0, 0), (51, .iload 6, 0, 0), (53, .invokevirtual 58, 0, 230), (56, .i2l, 0, 0), (57, .ladd, 0, 0), (58, .lstore_n 3, 0, 0), (59, .iinc 6 1, 1, 0), (62, .goto (-30), 0, 32)],
  [(65, .iinc 5 1, 1, 0), (68, .goto (-63), 0, 5), (71, .lload_n 3, 0, 0), (72, .lreturn, 0, 0)]]
def qp_k131 : List (List (Nat × Instr × Int32 × Nat)) := [
  [(0, .iload_n 1, 0, 0), (1, .aload_n 0, 0, 0), (2, .arraylength, 0, 0), (3, .if_icmp .ge 9, 0, 12), (6, .aload_n 0, 0, 0), (7, .iload_n 1, 0, 0), (8, .iaload, 0, 0), (9, .goto 11, 0, 20), (12, .ldc 7, (-1676768693), 0), (14, .iload_n 1, 0, 0), (15, .sipush 569, 569, 0)],
  [(18, .iadd, 0, 0), (19, .imul, 0, 0), (20, .ireturn, 0, 0)]]
def qp_k132 : List (List (Nat × Instr × Int32 × Nat)) := [
  [(0, .iload_n 0, 0, 0), (1, .ldc 8, 2147483647, 0), (3, .iand, 0, 0), (4, .iload_n 1, 0, 0), (5, .irem, 0, 0), (6, .ireturn, 0, 0)]]
def qp_k133 : List (List (Nat × Instr × Int32 × Nat)) := [
  [(0, .iconst 0, 0, 0), (1, .istore_n 2, 0, 0), (2, .iload_n 2, 0, 0), (3, .bipush 34, 34, 0), (5, .if_icmp .ge 13, 0, 18), (8, .aload_n 1, 0, 0), (9, .iload_n 2, 0, 0), (10, .iconst 0, 0, 0), (11, .iastore, 0, 0), (12, .iinc 2 1, 1, 0), (15, .goto (-13), 0, 2)],
  [(18, .aload_n 1, 0, 0), (19, .iconst 0, 0, 0), (20, .iconst 1, 1, 0), (21, .aload_n 0, 0, 0), (22, .iconst 0, 0, 0), (23, .invokestatic 9, 0, 1311), (26, .bipush 6, 6, 0), (28, .invokestatic 15, 0, 1321), (31, .iadd, 0, 0)],
  [(32, .iastore, 0, 0), (33, .aload_n 1, 0, 0), (34, .iconst 1, 1, 0), (35, .aload_n 0, 0, 0), (36, .iconst 0, 0, 0), (37, .invokestatic 9, 0, 1311), (40, .iconst 4, 4, 0), (41, .ishr, 0, 0), (42, .aload_n 0, 0, 0), (43, .iconst 0, 0, 0), (44, .invokestatic 9, 0, 1311), (47, .bipush 20, 20, 0)],
  [(49, .ishr, 0, 0), (50, .iconst 2, 2, 0), (51, .invokestatic 15, 0, 1321), (54, .ifCond .ne 8, 0, 62), (57, .bipush 21, 21, 0), (59, .goto 5, 0, 64), (62, .bipush 9, 9, 0)],
  [(64, .invokestatic 15, 0, 1321), (67, .iastore, 0, 0), (68, .iconst 0, 0, 0), (69, .istore_n 2, 0, 0), (70, .iload_n 2, 0, 0), (71, .bipush 6, 6, 0), (73, .if_icmp .ge 16, 0, 89), (76, .aload_n 1, 0, 0), (77, .bipush 14, 14, 0), (79, .iload_n 2, 0, 0)],
  [(80, .iadd, 0, 0), (81, .iload_n 2, 0, 0), (82, .iastore, 0, 0), (83, .iinc 2 1, 1, 0), (86, .goto (-16), 0, 70), (89, .iconst 0, 0, 0), (90, .istore_n 2, 0, 0), (91, .iload_n 2, 0, 0), (92, .aload_n 1, 0, 0), (93, .iconst 0, 0, 0), (94, .iaload, 0, 0), (95, .if_icmp .ge 59, 0, 154)],
  [(98, .aload_n 0, 0, 0), (99, .iconst 1, 1, 0), (100, .iload_n 2, 0, 0), (101, .iadd, 0, 0), (102, .invokestatic 9, 0, 1311), (105, .istore_n 3, 0, 0), (106, .aload_n 1, 0, 0), (107, .iconst 2, 2, 0), (108, .iload_n 2, 0, 0), (109, .iadd, 0, 0), (110, .iload_n 3, 0, 0), (111, .bipush 6, 6, 0)],
  [(113, .invokestatic 15, 0, 1321), (116, .iastore, 0, 0), (117, .aload_n 1, 0, 0), (118, .bipush 8, 8, 0), (120, .iload_n 2, 0, 0), (121, .iadd, 0, 0), (122, .iconst 1, 1, 0), (123, .iload_n 3, 0, 0), (124, .iconst 4, 4, 0), (125, .ishr, 0, 0), (126, .iload_n 3, 0, 0), (127, .bipush 20, 20, 0)],
  [(129, .ishr, 0, 0), (130, .iconst 2, 2, 0), (131, .invokestatic 15, 0, 1321), (134, .ifCond .ne 8, 0, 142), (137, .bipush 9, 9, 0), (139, .goto 4, 0, 143), (142, .iconst 4, 4, 0), (143, .invokestatic 15, 0, 1321)],
  [(146, .iadd, 0, 0), (147, .iastore, 0, 0), (148, .iinc 2 1, 1, 0), (151, .goto (-60), 0, 91), (154, .return_, 0, 0)]]
def qp_k134 : List (List (Nat × Instr × Int32 × Nat)) := [
  [(0, .iconst 4, 4, 0), (1, .iconst 2, 2, 0), (2, .aload_n 1, 0, 0), (3, .iconst 0, 0, 0), (4, .iaload, 0, 0), (5, .imul, 0, 0), (6, .iadd, 0, 0), (7, .istore_n 2, 0, 0), (8, .aload_n 0, 0, 0), (9, .iconst 0, 0, 0), (10, .iload_n 2, 0, 0), (11, .invokevirtual 19, 0, 1350), (14, .iload_n 2, 0, 0), (15, .if_icmp .ne 63, 0, 78)],
  [(18, .aload_n 0, 0, 0), (19, .iconst 0, 0, 0), (20, .iconst 0, 0, 0), (21, .bipush 113, 113, 0), (23, .invokevirtual 24, 0, 1360), (26, .sipush 1032, 1032, 0), (29, .if_icmp .ne 49, 0, 78)],
  [(32, .aload_n 0, 0, 0), (33, .iconst 0, 0, 0), (34, .iconst 1, 1, 0), (35, .bipush 48, 48, 0), (37, .aload_n 1, 0, 0), (38, .iconst 1, 1, 0), (39, .iaload, 0, 0), (40, .bipush 10, 10, 0), (42, .idiv, 0, 0), (43, .iadd, 0, 0), (44, .invokevirtual 24, 0, 1360), (47, .sipush 1032, 1032, 0)],
  [(50, .if_icmp .ne 28, 0, 78), (53, .aload_n 0, 0, 0), (54, .iconst 0, 0, 0), (55, .iconst 2, 2, 0), (56, .bipush 48, 48, 0), (58, .aload_n 1, 0, 0), (59, .iconst 1, 1, 0), (60, .iaload, 0, 0), (61, .bipush 10, 10, 0), (63, .irem, 0, 0)],
  [(64, .iadd, 0, 0), (65, .invokevirtual 24, 0, 1360), (68, .sipush 1032, 1032, 0), (71, .if_icmp .ne 7, 0, 78), (74, .iconst 1, 1, 0), (75, .goto 4, 0, 79), (78, .iconst 0, 0, 0), (79, .istore_n 3, 0, 0)],
  [(80, .iconst 0, 0, 0), (81, .istore 4, 0, 0), (83, .iload 4, 0, 0), (85, .aload_n 1, 0, 0), (86, .iconst 0, 0, 0), (87, .iaload, 0, 0), (88, .if_icmp .ge 72, 0, 160), (91, .iload_n 3, 0, 0), (92, .ifCond .eq 60, 0, 152), (95, .aload_n 0, 0, 0)],
  [(96, .iconst 0, 0, 0), (97, .iconst 4, 4, 0), (98, .iconst 2, 2, 0), (99, .iload 4, 0, 0), (101, .imul, 0, 0), (102, .iadd, 0, 0), (103, .aload_n 1, 0, 0), (104, .iconst 2, 2, 0), (105, .iload 4, 0, 0), (107, .iadd, 0, 0), (108, .iaload, 0, 0), (109, .invokestatic 28, 0, 1371)],
  [(112, .invokevirtual 24, 0, 1360), (115, .sipush 1032, 1032, 0), (118, .if_icmp .ne 34, 0, 152), (121, .aload_n 0, 0, 0), (122, .iconst 0, 0, 0), (123, .iconst 5, 5, 0), (124, .iconst 2, 2, 0), (125, .iload 4, 0, 0), (127, .imul, 0, 0)],
  [(128, .iadd, 0, 0), (129, .bipush 48, 48, 0), (131, .aload_n 1, 0, 0), (132, .bipush 8, 8, 0), (134, .iload 4, 0, 0), (136, .iadd, 0, 0), (137, .iaload, 0, 0), (138, .iadd, 0, 0), (139, .invokevirtual 24, 0, 1360), (142, .sipush 1032, 1032, 0)],
  [(145, .if_icmp .ne 7, 0, 152), (148, .iconst 1, 1, 0), (149, .goto 4, 0, 153), (152, .iconst 0, 0, 0), (153, .istore_n 3, 0, 0), (154, .iinc 4 1, 1, 0), (157, .goto (-74), 0, 83)],
  [(160, .iload_n 3, 0, 0), (161, .ifCond .eq 18, 0, 179), (164, .aload_n 0, 0, 0), (165, .iconst 0, 0, 0), (166, .invokevirtual 32, 0, 260), (169, .aload_n 1, 0, 0), (170, .iconst 0, 0, 0), (171, .iaload, 0, 0), (172, .if_icmp .ne 7, 0, 179), (175, .iconst 1, 1, 0)],
  [(176, .goto 4, 0, 180), (179, .iconst 0, 0, 0), (180, .ireturn, 0, 0)]]
def qp_k135 : List (List (Nat × Instr × Int32 × Nat)) := [
  [(0, .aload_n 0, 0, 0), (1, .aload_n 0, 0, 0), (2, .getfield 18, 0, 1), (5, .iload_n 1, 0, 0), (6, .iload_n 2, 0, 0), (7, .bipush 32, 32, 0), (9, .invokevirtual 78, 0, 120), (12, .ireturn, 0, 0)]]
def qp_k136 : List (List (Nat × Instr × Int32 × Nat)) := [
  [(0, .aload_n 0, 0, 0), (1, .aload_n 0, 0, 0), (2, .getfield 18, 0, 1), (5, .iload_n 1, 0, 0), (6, .iload_n 2, 0, 0), (7, .invokevirtual 82, 0, 190), (10, .istore 4, 0, 0), (12, .iload 4, 0, 0), (14, .ifCond .eq 6, 0, 20)],
  [(17, .iload 4, 0, 0), (19, .ireturn, 0, 0), (20, .aload_n 0, 0, 0), (21, .getfield 18, 0, 1), (24, .iload_n 1, 0, 0), (25, .iload_n 2, 0, 0), (26, .invokevirtual 86, 0, 230), (29, .istore 5, 0, 0), (31, .aload_n 0, 0, 0)],
  [(32, .getfield 18, 0, 1), (35, .iload_n 1, 0, 0), (36, .iload_n 2, 0, 0), (37, .iload_n 3, 0, 0), (38, .i2b, 0, 0), (39, .invokevirtual 90, 0, 160), (42, .iload 5, 0, 0), (44, .sipush 1000, 1000, 0), (47, .iadd, 0, 0)],
  [(48, .ireturn, 0, 0)]]
def qp_k137 : List (List (Nat × Instr × Int32 × Nat)) := [
  [(0, .iload_n 0, 0, 0), (1, .ifCond .ne 8, 0, 9), (4, .bipush 112, 112, 0), (6, .goto 45, 0, 51), (9, .iload_n 0, 0, 0), (10, .iconst 1, 1, 0), (11, .if_icmp .ne 8, 0, 19), (14, .bipush 115, 115, 0)],
  [(16, .goto 35, 0, 51), (19, .iload_n 0, 0, 0), (20, .iconst 2, 2, 0), (21, .if_icmp .ne 8, 0, 29), (24, .bipush 99, 99, 0), (26, .goto 25, 0, 51), (29, .iload_n 0, 0, 0), (30, .iconst 3, 3, 0), (31, .if_icmp .ne 8, 0, 39)],
  [(34, .bipush 117, 117, 0), (36, .goto 15, 0, 51), (39, .iload_n 0, 0, 0), (40, .iconst 4, 4, 0), (41, .if_icmp .ne 8, 0, 49), (44, .bipush 103, 103, 0), (46, .goto 5, 0, 51)],
  [(49, .bipush 111, 111, 0), (51, .ireturn, 0, 0)]]
def qp_k138 : List (List (Nat × Instr × Int32 × Nat)) := [
  [(0, .iconst 0, 0, 0), (1, .istore_n 1, 0, 0), (2, .iload_n 0, 0, 0), (3, .istore_n 2, 0, 0), (4, .iload_n 2, 0, 0), (5, .ifCond .le 16, 0, 21), (8, .iload_n 1, 0, 0), (9, .iload_n 2, 0, 0), (10, .iconst 1, 1, 0), (11, .iand, 0, 0), (12, .iadd, 0, 0), (13, .istore_n 1, 0, 0), (14, .iload_n 2, 0, 0), (15, .iconst 1, 1, 0)],
  [(16, .ishr, 0, 0), (17, .istore_n 2, 0, 0), (18, .goto (-14), 0, 4), (21, .iload_n 1, 0, 0), (22, .ireturn, 0, 0)]]
def qp_k139 : List (List (Nat × Instr × Int32 × Nat)) := [
  [(0, .aload_n 0, 0, 0), (1, .iload_n 1, 0, 0), (2, .iload_n 2, 0, 0), (3, .invokevirtual 35, 0, 1400), (6, .iconst 1, 1, 0), (7, .if_icmp .ne 10, 0, 17), (10, .aload_n 0, 0, 0), (11, .invokevirtual 38, 0, 1180), (14, .goto 5, 0, 19)],
  [(17, .bipush (-100), (-100), 0), (19, .ireturn, 0, 0)]]
def qp_k140 : List (List (Nat × Instr × Int32 × Nat)) := [
  [(0, .aload_n 0, 0, 0), (1, .getfield 36, 0, 4), (4, .getfield 134, 0, 400), (7, .iload_n 1, 0, 0), (8, .invokevirtual 152, 0, 430), (11, .ifCond .eq 13, 0, 24), (14, .iload_n 2, 0, 0), (15, .ifCond .lt 9, 0, 24)],
  [(18, .iload_n 2, 0, 0), (19, .bipush 6, 6, 0), (21, .if_icmp .le 5, 0, 26), (24, .iconst (-1), (-1), 0), (25, .ireturn, 0, 0), (26, .aload_n 0, 0, 0), (27, .getfield 36, 0, 4), (30, .aload_n 0, 0, 0), (31, .getfield 36, 0, 4)],
  [(34, .getfield 153, 0, 402), (37, .invokevirtual 156, 0, 670), (40, .aload_n 0, 0, 0), (41, .aload_n 0, 0, 0), (42, .iload_n 1, 0, 0), (43, .iload_n 2, 0, 0), (44, .invokevirtual 159, 0, 1260), (47, .invokevirtual 94, 0, 240)],
  [(50, .ireturn, 0, 0)]]
def qp_kL0 : List (List (Nat × Instr × Int32 × Nat)) := [
  [(0, .new 20, 0, 0), (3, .dup, 0, 0), (4, .invokespecial 42, 0, 2), (7, .astore_n 1, 0, 0), (8, .bipush 34, 34, 0), (10, .newarray .int, 0, 0), (12, .astore_n 2, 0, 0), (13, .aload_n 0, 0, 0), (14, .aload_n 2, 0, 0), (15, .invokestatic 43, 0, 1331)],
  [(18, .aload_n 1, 0, 0), (19, .aload_n 2, 0, 0), (20, .invokestatic 47, 0, 1341), (23, .ifCond .ne 5, 0, 28), (26, .iconst 0, 0, 0), (27, .ireturn, 0, 0), (28, .aload_n 2, 0, 0), (29, .iconst 0, 0, 0), (30, .iaload, 0, 0), (31, .istore_n 3, 0, 0)],
  [(32, .aload_n 1, 0, 0), (33, .iconst 1, 1, 0), (34, .aload_n 0, 0, 0), (35, .bipush 7, 7, 0), (37, .invokestatic 9, 0, 1311), (40, .bipush 12, 12, 0), (42, .invokestatic 15, 0, 1321), (45, .iadd, 0, 0), (46, .iconst 1, 1, 0), (47, .aload_n 0, 0, 0)],
  [(48, .bipush 8, 8, 0), (50, .invokestatic 9, 0, 1311), (53, .ldc 51, 2000000, 0), (55, .invokestatic 15, 0, 1321), (58, .iadd, 0, 0), (59, .invokevirtual 52, 0, 1150), (62, .aload_n 1, 0, 0), (63, .iconst 5, 5, 0)],
  [(64, .invokevirtual 55, 0, 1210), (67, .if_icmp .ne 16, 0, 83), (70, .aload_n 1, 0, 0), (71, .iconst 0, 0, 0), (72, .invokevirtual 58, 0, 590), (75, .aload_n 1, 0, 0), (76, .iconst 3, 3, 0), (77, .invokevirtual 55, 0, 1210)],
  [(80, .if_icmp .eq 5, 0, 85), (83, .iconst 0, 0, 0), (84, .ireturn, 0, 0), (85, .aload_n 1, 0, 0), (86, .iconst 3, 3, 0), (87, .invokevirtual 55, 0, 1210), (90, .istore 4, 0, 0), (92, .aload_n 1, 0, 0), (93, .iconst 2, 2, 0), (94, .invokevirtual 55, 0, 1210)],
  [(97, .istore 5, 0, 0), (99, .aload_n 1, 0, 0), (100, .iconst 1, 1, 0), (101, .invokevirtual 55, 0, 1210), (104, .istore 6, 0, 0), (106, .aload_n 1, 0, 0), (107, .iconst 4, 4, 0), (108, .invokevirtual 55, 0, 1210), (111, .istore 7, 0, 0)],
  [(113, .aload_n 1, 0, 0), (114, .iconst 5, 5, 0), (115, .invokevirtual 55, 0, 1210), (118, .istore 8, 0, 0), (120, .aload_n 1, 0, 0), (121, .bipush 6, 6, 0), (123, .invokevirtual 55, 0, 1210), (126, .istore 9, 0, 0)]]
def qp_kL1 : List (List (Nat × Instr × Int32 × Nat)) := [
  [(128, .iconst 0, 0, 0), (129, .istore 10, 0, 0), (131, .iconst 0, 0, 0), (132, .istore 11, 0, 0), (134, .iconst 0, 0, 0), (135, .istore 12, 0, 0), (137, .bipush 6, 6, 0), (139, .newarray .int, 0, 0), (141, .astore 13, 0, 0), (143, .bipush 6, 6, 0)],
  [(145, .newarray .int, 0, 0), (147, .astore 14, 0, 0), (149, .iconst 0, 0, 0), (150, .istore 15, 0, 0), (152, .iload 15, 0, 0), (154, .iload_n 3, 0, 0), (155, .if_icmp .ge 243, 0, 398), (158, .aload_n 1, 0, 0), (159, .iload 15, 0, 0)],
  [(161, .invokevirtual 61, 0, 620), (164, .istore 16, 0, 0), (166, .aload 13, 0, 0), (168, .iload 15, 0, 0), (170, .iload 16, 0, 0), (172, .iastore, 0, 0), (173, .iload 10, 0, 0), (175, .iconst 1, 1, 0)],
  [(176, .iload 16, 0, 0), (178, .ishl, 0, 0), (179, .ior, 0, 0), (180, .istore 10, 0, 0), (182, .aload 14, 0, 0), (184, .iload 16, 0, 0), (186, .aload_n 1, 0, 0), (187, .iload 16, 0, 0), (189, .iconst 4, 4, 0), (190, .invokestatic 64, 0, 1391)],
  [(193, .iastore, 0, 0), (194, .iload 11, 0, 0), (196, .aload 14, 0, 0), (198, .iload 16, 0, 0), (200, .iaload, 0, 0), (201, .iadd, 0, 0), (202, .istore 11, 0, 0), (204, .aload_n 1, 0, 0), (205, .iload 16, 0, 0), (207, .iconst 5, 5, 0)],
  [(208, .invokestatic 64, 0, 1391), (211, .istore 17, 0, 0), (213, .iload 12, 0, 0), (215, .iconst 1, 1, 0), (216, .iload 17, 0, 0), (218, .ishl, 0, 0), (219, .ior, 0, 0), (220, .istore 12, 0, 0), (222, .aload_n 1, 0, 0), (223, .iload 16, 0, 0)],
  [(225, .iconst 2, 2, 0), (226, .invokestatic 64, 0, 1391), (229, .iload 15, 0, 0), (231, .if_icmp .ne 159, 0, 390), (234, .aload_n 1, 0, 0), (235, .iload 16, 0, 0), (237, .iconst 3, 3, 0), (238, .invokestatic 64, 0, 1391)],
  [(241, .aload_n 1, 0, 0), (242, .iload 16, 0, 0), (244, .iload 15, 0, 0), (246, .invokevirtual 68, 0, 630), (249, .if_icmp .ne 141, 0, 390), (252, .aload 14, 0, 0), (254, .iload 16, 0, 0)]]
def qp_kL2 : List (List (Nat × Instr × Int32 × Nat)) := [
  [(256, .iaload, 0, 0), (257, .ifCond .lt 133, 0, 390), (260, .aload 14, 0, 0), (262, .iload 16, 0, 0), (264, .iaload, 0, 0), (265, .aload_n 1, 0, 0), (266, .iload 16, 0, 0), (268, .iload 15, 0, 0), (270, .invokevirtual 68, 0, 630)],
  [(273, .if_icmp .gt 117, 0, 390), (276, .iload 17, 0, 0), (278, .ifCond .lt 112, 0, 390), (281, .iload 17, 0, 0), (283, .iload_n 3, 0, 0), (284, .if_icmp .ge 106, 0, 390), (287, .iload 17, 0, 0)],
  [(289, .aload_n 2, 0, 0), (290, .bipush 8, 8, 0), (292, .iload 16, 0, 0), (294, .iadd, 0, 0), (295, .iaload, 0, 0), (296, .if_icmp .le 7, 0, 303), (299, .iconst 1, 1, 0), (300, .goto 4, 0, 304), (303, .iconst 0, 0, 0)],
  [(304, .iload 7, 0, 0), (306, .iload 16, 0, 0), (308, .ishr, 0, 0), (309, .iconst 1, 1, 0), (310, .iand, 0, 0), (311, .iconst 1, 1, 0), (312, .if_icmp .ne 7, 0, 319), (315, .iconst 1, 1, 0), (316, .goto 4, 0, 320), (319, .iconst 0, 0, 0)],
  [(320, .if_icmp .ne 70, 0, 390), (323, .iload 7, 0, 0), (325, .iload 16, 0, 0), (327, .ishr, 0, 0), (328, .iconst 1, 1, 0), (329, .iand, 0, 0), (330, .iconst 1, 1, 0), (331, .if_icmp .ne 11, 0, 342), (334, .aload 14, 0, 0)],
  [(336, .iload 16, 0, 0), (338, .iaload, 0, 0), (339, .ifCond .ne 51, 0, 390), (342, .iload 9, 0, 0), (344, .iload 16, 0, 0), (346, .ishr, 0, 0), (347, .iconst 1, 1, 0), (348, .iand, 0, 0), (349, .iconst 1, 1, 0), (350, .if_icmp .ne 7, 0, 357)],
  [(353, .iconst 1, 1, 0), (354, .goto 4, 0, 358), (357, .iconst 0, 0, 0), (358, .aload 14, 0, 0), (360, .iload 16, 0, 0), (362, .iaload, 0, 0), (363, .ifCond .le 23, 0, 386), (366, .aload 14, 0, 0)],
  [(368, .iload 16, 0, 0), (370, .iaload, 0, 0), (371, .aload_n 1, 0, 0), (372, .iload 16, 0, 0), (374, .iload 15, 0, 0), (376, .invokevirtual 68, 0, 630), (379, .if_icmp .ne 7, 0, 386), (382, .iconst 1, 1, 0), (383, .goto 4, 0, 387)]]
def qp_kL3 : List (List (Nat × Instr × Int32 × Nat)) := [
  [(386, .iconst 0, 0, 0), (387, .if_icmp .eq 5, 0, 392), (390, .iconst 0, 0, 0), (391, .ireturn, 0, 0), (392, .iinc 15 1, 1, 0), (395, .goto (-243), 0, 152), (398, .iconst 0, 0, 0), (399, .istore 15, 0, 0)],
  [(401, .iload 15, 0, 0), (403, .iload_n 3, 0, 0), (404, .if_icmp .ge 69, 0, 473), (407, .iload 15, 0, 0), (409, .ifCond .le 15, 0, 424), (412, .iconst 1, 1, 0), (413, .aload 13, 0, 0), (415, .iload 15, 0, 0)],
  [(417, .iconst 1, 1, 0), (418, .isub, 0, 0), (419, .iaload, 0, 0), (420, .ishl, 0, 0), (421, .goto 4, 0, 425), (424, .iconst 0, 0, 0), (425, .iload 15, 0, 0), (427, .iload_n 3, 0, 0), (428, .iconst 1, 1, 0), (429, .isub, 0, 0), (430, .if_icmp .ge 15, 0, 445)],
  [(433, .iconst 1, 1, 0), (434, .aload 13, 0, 0), (436, .iload 15, 0, 0), (438, .iconst 1, 1, 0), (439, .iadd, 0, 0), (440, .iaload, 0, 0), (441, .ishl, 0, 0), (442, .goto 4, 0, 446), (445, .iconst 0, 0, 0), (446, .ior, 0, 0), (447, .istore 16, 0, 0)],
  [(449, .aload_n 1, 0, 0), (450, .aload 13, 0, 0), (452, .iload 15, 0, 0), (454, .iaload, 0, 0), (455, .bipush 6, 6, 0), (457, .invokestatic 64, 0, 1391), (460, .iload 16, 0, 0), (462, .if_icmp .eq 5, 0, 467)],
  [(465, .iconst 0, 0, 0), (466, .ireturn, 0, 0), (467, .iinc 15 1, 1, 0), (470, .goto (-69), 0, 401), (473, .iload 10, 0, 0), (475, .iconst 1, 1, 0), (476, .iload_n 3, 0, 0), (477, .ishl, 0, 0), (478, .iconst 1, 1, 0), (479, .isub, 0, 0)],
  [(480, .if_icmp .ne 34, 0, 514), (483, .iload 12, 0, 0), (485, .iconst 1, 1, 0), (486, .iload_n 3, 0, 0), (487, .ishl, 0, 0), (488, .iconst 1, 1, 0), (489, .isub, 0, 0), (490, .if_icmp .ne 24, 0, 514), (493, .iload 11, 0, 0), (495, .iload 8, 0, 0)],
  [(497, .if_icmp .ne 17, 0, 514), (500, .iload 8, 0, 0), (502, .iload 6, 0, 0), (504, .if_icmp .gt 10, 0, 514), (507, .iload 5, 0, 0), (509, .bipush 12, 12, 0), (511, .if_icmp .le 5, 0, 516)]]
def qp_kL4 : List (List (Nat × Instr × Int32 × Nat)) := [
  [(514, .iconst 0, 0, 0), (515, .ireturn, 0, 0), (516, .iconst 0, 0, 0), (517, .istore 15, 0, 0), (519, .iload 15, 0, 0), (521, .iload_n 3, 0, 0), (522, .if_icmp .ge 230, 0, 752), (525, .aload_n 1, 0, 0), (526, .iload 15, 0, 0)],
  [(528, .invokevirtual 71, 0, 730), (531, .istore 16, 0, 0), (533, .aload_n 1, 0, 0), (534, .invokevirtual 38, 0, 1180), (537, .istore 17, 0, 0), (539, .iload 16, 0, 0), (541, .ifCond .lt 32, 0, 573)],
  [(544, .iload 16, 0, 0), (546, .iload_n 3, 0, 0), (547, .if_icmp .ge 26, 0, 573), (550, .aload_n 1, 0, 0), (551, .iload 15, 0, 0), (553, .iload 16, 0, 0), (555, .invokevirtual 74, 0, 650), (558, .iload 17, 0, 0)],
  [(560, .if_icmp .ne 13, 0, 573), (563, .iload 17, 0, 0), (565, .aload 14, 0, 0), (567, .iload 15, 0, 0), (569, .iaload, 0, 0), (570, .if_icmp .ge 5, 0, 575), (573, .iconst 0, 0, 0), (574, .ireturn, 0, 0), (575, .iconst 0, 0, 0)],
  [(576, .istore 18, 0, 0), (578, .iload 18, 0, 0), (580, .iload_n 3, 0, 0), (581, .if_icmp .ge 165, 0, 746), (584, .aload_n 1, 0, 0), (585, .iload 15, 0, 0), (587, .iload 18, 0, 0), (589, .invokevirtual 74, 0, 650)],
  [(592, .istore 19, 0, 0), (594, .aload_n 1, 0, 0), (595, .iload 15, 0, 0), (597, .iload 18, 0, 0), (599, .invokevirtual 77, 0, 420), (602, .istore 20, 0, 0), (604, .aload 13, 0, 0), (606, .iload 18, 0, 0)],
  [(608, .iaload, 0, 0), (609, .iload 15, 0, 0), (611, .if_icmp .ne 7, 0, 618), (614, .iconst 1, 1, 0), (615, .goto 4, 0, 619), (618, .iconst 0, 0, 0), (619, .istore 21, 0, 0), (621, .iload 19, 0, 0), (623, .iload 17, 0, 0)],
  [(625, .if_icmp .gt 113, 0, 738), (628, .iload 19, 0, 0), (630, .iload 17, 0, 0), (632, .if_icmp .ne 10, 0, 642), (635, .iload 18, 0, 0), (637, .iload 16, 0, 0), (639, .if_icmp .lt 99, 0, 738)]]
def qp_kL5 : List (List (Nat × Instr × Int32 × Nat)) := [
  [(642, .iload 21, 0, 0), (644, .ifCond .eq 23, 0, 667), (647, .iload 20, 0, 0), (649, .bipush (-4), (-4), 0), (651, .if_icmp .ne 87, 0, 738), (654, .iload 19, 0, 0)],
  [(656, .aload 14, 0, 0), (658, .iload 15, 0, 0), (660, .iaload, 0, 0), (661, .if_icmp .eq 63, 0, 724), (664, .goto 74, 0, 738), (667, .iload 5, 0, 0), (669, .bipush 12, 12, 0), (671, .if_icmp .ne 13, 0, 684)],
  [(674, .iload 20, 0, 0), (676, .bipush (-4), (-4), 0), (678, .if_icmp .eq 46, 0, 724), (681, .goto 57, 0, 738), (684, .iload 20, 0, 0), (686, .iload 5, 0, 0)],
  [(688, .if_icmp .ne 50, 0, 738), (691, .aload_n 1, 0, 0), (692, .iload 18, 0, 0), (694, .invokevirtual 61, 0, 620), (697, .iload 15, 0, 0), (699, .if_icmp .ne 39, 0, 738), (702, .aload_n 1, 0, 0), (703, .iload 15, 0, 0)],
  [(705, .iconst 4, 4, 0), (706, .invokestatic 64, 0, 1391), (709, .iload 19, 0, 0), (711, .if_icmp .ne 27, 0, 738), (714, .aload_n 1, 0, 0), (715, .iload 4, 0, 0), (717, .invokevirtual 80, 0, 570)],
  [(720, .iconst 1, 1, 0), (721, .if_icmp .ne 17, 0, 738), (724, .aload_n 1, 0, 0), (725, .iload 18, 0, 0), (727, .invokevirtual 61, 0, 620), (730, .aload 13, 0, 0), (732, .iload 18, 0, 0), (734, .iaload, 0, 0), (735, .if_icmp .eq 5, 0, 740)],
  [(738, .iconst 0, 0, 0), (739, .ireturn, 0, 0), (740, .iinc 18 1, 1, 0), (743, .goto (-165), 0, 578), (746, .iinc 15 1, 1, 0), (749, .goto (-230), 0, 519)],
  [(752, .iconst 0, 0, 0), (753, .istore 15, 0, 0), (755, .iload 15, 0, 0), (757, .iload 5, 0, 0), (759, .if_icmp .ge 72, 0, 831), (762, .aload_n 1, 0, 0), (763, .iload 15, 0, 0), (765, .invokevirtual 83, 0, 740)]]
def qp_kL6 : List (List (Nat × Instr × Int32 × Nat)) := [
  [(768, .istore 16, 0, 0), (770, .iload 16, 0, 0), (772, .ifCond .lt 51, 0, 823), (775, .iload 16, 0, 0), (777, .iload 5, 0, 0), (779, .iconst 1, 1, 0), (780, .isub, 0, 0), (781, .iload 15, 0, 0), (783, .isub, 0, 0)],
  [(784, .if_icmp .gt 39, 0, 823), (787, .aload_n 1, 0, 0), (788, .iload 15, 0, 0), (790, .invokevirtual 86, 0, 540), (793, .iload 16, 0, 0), (795, .if_icmp .ne 28, 0, 823), (798, .aload_n 1, 0, 0), (799, .iconst 2, 2, 0)],
  [(800, .invokevirtual 55, 0, 1210), (803, .iload 5, 0, 0), (805, .iconst 1, 1, 0), (806, .isub, 0, 0), (807, .iload 16, 0, 0), (809, .isub, 0, 0), (810, .if_icmp .ne 13, 0, 823), (813, .aload_n 1, 0, 0), (814, .iconst 0, 0, 0), (815, .invokevirtual 89, 0, 610)],
  [(818, .iload 4, 0, 0), (820, .if_icmp .eq 5, 0, 825), (823, .iconst 0, 0, 0), (824, .ireturn, 0, 0), (825, .iinc 15 1, 1, 0), (828, .goto (-73), 0, 755), (831, .iload 5, 0, 0)],
  [(833, .ifCond .le 26, 0, 859), (836, .aload_n 1, 0, 0), (837, .iload 5, 0, 0), (839, .iconst 1, 1, 0), (840, .isub, 0, 0), (841, .invokevirtual 83, 0, 740), (844, .ifCond .ne 13, 0, 857), (847, .aload_n 1, 0, 0)],
  [(848, .iload 5, 0, 0), (850, .invokevirtual 83, 0, 740), (853, .iconst (-1), (-1), 0), (854, .if_icmp .eq 5, 0, 859), (857, .iconst 0, 0, 0), (858, .ireturn, 0, 0), (859, .iload_n 3, 0, 0), (860, .iconst 1, 1, 0), (861, .if_icmp .le 342, 0, 1203)],
  [(864, .aload_n 0, 0, 0), (865, .bipush 9, 9, 0), (867, .invokestatic 9, 0, 1311), (870, .iload_n 3, 0, 0), (871, .invokestatic 15, 0, 1321), (874, .istore 15, 0, 0), (876, .iload 15, 0, 0), (878, .iconst 1, 1, 0), (879, .iadd, 0, 0)],
  [(880, .aload_n 0, 0, 0), (881, .bipush 10, 10, 0), (883, .invokestatic 9, 0, 1311), (886, .iload_n 3, 0, 0), (887, .iconst 1, 1, 0), (888, .isub, 0, 0), (889, .invokestatic 15, 0, 1321), (892, .iadd, 0, 0), (893, .iload_n 3, 0, 0), (894, .irem, 0, 0), (895, .istore 16, 0, 0)]]
def qp_kL7 : List (List (Nat × Instr × Int32 × Nat)) := [
  [(897, .aload_n 0, 0, 0), (898, .bipush 11, 11, 0), (900, .invokestatic 9, 0, 1311), (903, .iload_n 3, 0, 0), (904, .invokestatic 15, 0, 1321), (907, .istore 17, 0, 0), (909, .aload_n 1, 0, 0), (910, .iload 15, 0, 0)],
  [(912, .iload 16, 0, 0), (914, .iload 17, 0, 0), (916, .iconst 5, 5, 0), (917, .invokevirtual 92, 0, 750), (920, .istore 18, 0, 0), (922, .aload_n 1, 0, 0), (923, .iload 15, 0, 0), (925, .bipush 6, 6, 0), (927, .invokestatic 64, 0, 1391)],
  [(930, .iload 16, 0, 0), (932, .ishr, 0, 0), (933, .iconst 1, 1, 0), (934, .iand, 0, 0), (935, .iconst 1, 1, 0), (936, .if_icmp .ne 22, 0, 958), (939, .aload 14, 0, 0), (941, .iload 17, 0, 0), (943, .iaload, 0, 0)],
  [(944, .aload_n 1, 0, 0), (945, .iload 17, 0, 0), (947, .iconst 3, 3, 0), (948, .invokestatic 64, 0, 1391), (951, .if_icmp .ne 7, 0, 958), (954, .iconst 1, 1, 0), (955, .goto 4, 0, 959), (958, .iconst 0, 0, 0), (959, .istore 19, 0, 0)],
  [(961, .iload 18, 0, 0), (963, .bipush (-9), (-9), 0), (965, .if_icmp .lt 36, 0, 1001), (968, .iload 18, 0, 0), (970, .iconst 3, 3, 0), (971, .if_icmp .gt 30, 0, 1001), (974, .iload 18, 0, 0)],
  [(976, .ifCond .ge 10, 0, 986), (979, .iload 18, 0, 0), (981, .bipush (-9), (-9), 0), (983, .if_icmp .ne 18, 0, 1001), (986, .iload 18, 0, 0), (988, .ifCond .ne 7, 0, 995), (991, .iconst 1, 1, 0)],
  [(992, .goto 4, 0, 996), (995, .iconst 0, 0, 0), (996, .iload 19, 0, 0), (998, .if_icmp .eq 5, 0, 1003), (1001, .iconst 0, 0, 0), (1002, .ireturn, 0, 0), (1003, .iload 18, 0, 0), (1005, .ifCond .le 170, 0, 1175)],
  [(1008, .iload 5, 0, 0), (1010, .iload 18, 0, 0), (1012, .iadd, 0, 0), (1013, .bipush 12, 12, 0), (1015, .if_icmp .gt 160, 0, 1175), (1018, .iconst 0, 0, 0), (1019, .istore 20, 0, 0), (1021, .iload 20, 0, 0), (1023, .iload 18, 0, 0)]]
def qp_kL8 : List (List (Nat × Instr × Int32 × Nat)) := [
  [(1025, .if_icmp .ge 100, 0, 1125), (1028, .aload_n 1, 0, 0), (1029, .iconst 5, 5, 0), (1030, .iload 20, 0, 0), (1032, .invokevirtual 96, 0, 250), (1035, .istore 21, 0, 0), (1037, .aload_n 1, 0, 0), (1038, .invokevirtual 38, 0, 1180)],
  [(1041, .istore 22, 0, 0), (1043, .aload_n 1, 0, 0), (1044, .iload 15, 0, 0), (1046, .bipush 6, 6, 0), (1048, .invokestatic 64, 0, 1391), (1051, .iload 16, 0, 0), (1053, .ishr, 0, 0), (1054, .iconst 1, 1, 0), (1055, .iand, 0, 0)],
  [(1056, .iconst 1, 1, 0), (1057, .if_icmp .ne 24, 0, 1081), (1060, .aload_n 1, 0, 0), (1061, .iload 17, 0, 0), (1063, .iconst 4, 4, 0), (1064, .invokestatic 64, 0, 1391), (1067, .aload_n 1, 0, 0), (1068, .iload 17, 0, 0), (1070, .iconst 3, 3, 0), (1071, .invokestatic 64, 0, 1391)],
  [(1074, .if_icmp .ne 7, 0, 1081), (1077, .iconst 1, 1, 0), (1078, .goto 4, 0, 1082), (1081, .iconst 0, 0, 0), (1082, .istore 23, 0, 0), (1084, .iload 21, 0, 0), (1086, .iconst 1, 1, 0), (1087, .if_icmp .ne 30, 0, 1117)],
  [(1090, .iload 23, 0, 0), (1092, .ifCond .ne 25, 0, 1117), (1095, .aload_n 1, 0, 0), (1096, .iload 22, 0, 0), (1098, .bipush 8, 8, 0), (1100, .idiv, 0, 0), (1101, .iload 22, 0, 0), (1103, .bipush 8, 8, 0)],
  [(1105, .irem, 0, 0), (1106, .invokevirtual 77, 0, 420), (1109, .iload 5, 0, 0), (1111, .iload 20, 0, 0), (1113, .iadd, 0, 0), (1114, .if_icmp .eq 5, 0, 1119), (1117, .iconst 0, 0, 0), (1118, .ireturn, 0, 0), (1119, .iinc 20 1, 1, 0)],
  [(1122, .goto (-101), 0, 1021), (1125, .aload_n 1, 0, 0), (1126, .iload 15, 0, 0), (1128, .bipush 6, 6, 0), (1130, .invokestatic 64, 0, 1391), (1133, .iload 16, 0, 0), (1135, .ishr, 0, 0)],
  [(1136, .iconst 1, 1, 0), (1137, .iand, 0, 0), (1138, .iconst 1, 1, 0), (1139, .if_icmp .ne 34, 0, 1173), (1142, .aload_n 1, 0, 0), (1143, .iload 17, 0, 0), (1145, .iconst 4, 4, 0), (1146, .invokestatic 64, 0, 1391), (1149, .aload_n 1, 0, 0), (1150, .iload 17, 0, 0)]]
def qp_kL9 : List (List (Nat × Instr × Int32 × Nat)) := [
  [(1152, .iconst 3, 3, 0), (1153, .invokestatic 64, 0, 1391), (1156, .if_icmp .ne 17, 0, 1173), (1159, .aload_n 1, 0, 0), (1160, .iload 15, 0, 0), (1162, .iload 16, 0, 0), (1164, .iload 17, 0, 0), (1166, .iconst 5, 5, 0), (1167, .invokevirtual 92, 0, 750)],
  [(1170, .ifCond .eq 5, 0, 1175), (1173, .iconst 0, 0, 0), (1174, .ireturn, 0, 0), (1175, .aload_n 1, 0, 0), (1176, .iconst 0, 0, 0), (1177, .invokevirtual 89, 0, 610), (1180, .iload 4, 0, 0), (1182, .if_icmp .ne 19, 0, 1201)],
  [(1185, .aload_n 1, 0, 0), (1186, .iload 16, 0, 0), (1188, .iload 15, 0, 0), (1190, .iload 17, 0, 0), (1192, .iconst 5, 5, 0), (1193, .invokevirtual 92, 0, 750), (1196, .iload 18, 0, 0), (1198, .if_icmp .eq 5, 0, 1203)],
  [(1201, .iconst 0, 0, 0), (1202, .ireturn, 0, 0), (1203, .aload_n 0, 0, 0), (1204, .bipush 12, 12, 0), (1206, .invokestatic 9, 0, 1311), (1209, .bipush 9, 9, 0), (1211, .invokestatic 15, 0, 1321), (1214, .istore 15, 0, 0)],
  [(1216, .aload_n 1, 0, 0), (1217, .iconst 3, 3, 0), (1218, .iconst 2, 2, 0), (1219, .iload 15, 0, 0), (1221, .imul, 0, 0), (1222, .invokevirtual 99, 0, 110), (1225, .iconst 2, 2, 0), (1226, .iload 15, 0, 0), (1228, .imul, 0, 0), (1229, .if_icmp .eq 5, 0, 1234)],
  [(1232, .iconst 0, 0, 0), (1233, .ireturn, 0, 0), (1234, .iconst 0, 0, 0), (1235, .istore 16, 0, 0), (1237, .iload 16, 0, 0), (1239, .iload 15, 0, 0), (1241, .if_icmp .ge 61, 0, 1302), (1244, .aload_n 0, 0, 0), (1245, .bipush 13, 13, 0), (1247, .iload 16, 0, 0)],
  [(1249, .iadd, 0, 0), (1250, .invokestatic 9, 0, 1311), (1253, .iload_n 3, 0, 0), (1254, .invokestatic 15, 0, 1321), (1257, .istore 17, 0, 0), (1259, .aload_n 1, 0, 0), (1260, .iconst 3, 3, 0), (1261, .iconst 2, 2, 0), (1262, .iload 16, 0, 0)],
  [(1264, .imul, 0, 0), (1265, .iload 17, 0, 0), (1267, .invokevirtual 102, 0, 180), (1270, .iconst 1, 1, 0), (1271, .if_icmp .ne 23, 0, 1294), (1274, .aload_n 1, 0, 0), (1275, .iconst 3, 3, 0), (1276, .iconst 2, 2, 0), (1277, .iload 16, 0, 0), (1279, .imul, 0, 0)]]
def qp_kL10 : List (List (Nat × Instr × Int32 × Nat)) := [
  [(1280, .iconst 1, 1, 0), (1281, .iadd, 0, 0), (1282, .aload 14, 0, 0), (1284, .iload 17, 0, 0), (1286, .iaload, 0, 0), (1287, .invokevirtual 102, 0, 180), (1290, .iconst 1, 1, 0), (1291, .if_icmp .eq 5, 0, 1296), (1294, .iconst 0, 0, 0), (1295, .ireturn, 0, 0)],
  [(1296, .iinc 16 1, 1, 0), (1299, .goto (-62), 0, 1237), (1302, .aload_n 1, 0, 0), (1303, .iconst 3, 3, 0), (1304, .invokevirtual 104, 0, 860), (1307, .iconst 1, 1, 0), (1308, .if_icmp .ne 32, 0, 1340), (1311, .aload_n 1, 0, 0)],
  [(1312, .invokevirtual 107, 0, 1190), (1315, .lconst 1, 0, 0), (1316, .lcmp, 0, 0), (1317, .ifCond .lt 23, 0, 1340), (1320, .aload_n 1, 0, 0), (1321, .invokevirtual 107, 0, 1190), (1324, .ldc2_w 111, 0, 0), (1327, .lcmp, 0, 0)],
  [(1328, .ifCond .gt 12, 0, 1340), (1331, .aload_n 1, 0, 0), (1332, .invokevirtual 113, 0, 1200), (1335, .lconst 1, 0, 0), (1336, .lcmp, 0, 0), (1337, .ifCond .eq 5, 0, 1342), (1340, .iconst 0, 0, 0), (1341, .ireturn, 0, 0), (1342, .aload_n 1, 0, 0), (1343, .invokevirtual 107, 0, 1190)],
  [(1346, .lstore 16, 0, 0), (1348, .aload_n 1, 0, 0), (1349, .iconst 3, 3, 0), (1350, .invokevirtual 116, 0, 970), (1353, .istore 18, 0, 0), (1355, .aload_n 1, 0, 0), (1356, .invokevirtual 38, 0, 1180), (1359, .istore 19, 0, 0)],
  [(1361, .iload 18, 0, 0), (1363, .ifCond .lt 24, 0, 1387), (1366, .iload 18, 0, 0), (1368, .iload_n 3, 0, 0), (1369, .if_icmp .ge 18, 0, 1387), (1372, .iload 19, 0, 0), (1374, .iconst 1, 1, 0), (1375, .if_icmp .lt 12, 0, 1387)],
  [(1378, .iload 19, 0, 0), (1380, .i2l, 0, 0), (1381, .lload 16, 0, 0), (1383, .lcmp, 0, 0), (1384, .ifCond .le 5, 0, 1389), (1387, .iconst 0, 0, 0), (1388, .ireturn, 0, 0), (1389, .iconst 0, 0, 0), (1390, .istore 20, 0, 0)],
  [(1392, .iload 20, 0, 0), (1394, .iload_n 3, 0, 0), (1395, .if_icmp .ge 43, 0, 1438), (1398, .aload_n 1, 0, 0), (1399, .iconst 3, 3, 0), (1400, .iload 20, 0, 0), (1402, .invokevirtual 119, 0, 950), (1405, .aload 13, 0, 0), (1407, .iload 20, 0, 0)]]
def qp_kL11 : List (List (Nat × Instr × Int32 × Nat)) := [
  [(1409, .iaload, 0, 0), (1410, .ishr, 0, 0), (1411, .iconst 1, 1, 0), (1412, .iand, 0, 0), (1413, .iconst 1, 1, 0), (1414, .if_icmp .ne 16, 0, 1430), (1417, .aload_n 1, 0, 0), (1418, .iconst 3, 3, 0), (1419, .iload 20, 0, 0), (1421, .invokevirtual 119, 0, 950)],
  [(1424, .iconst 1, 1, 0), (1425, .iload_n 3, 0, 0), (1426, .ishl, 0, 0), (1427, .if_icmp .lt 5, 0, 1432), (1430, .iconst 0, 0, 0), (1431, .ireturn, 0, 0), (1432, .iinc 20 1, 1, 0), (1435, .goto (-43), 0, 1392), (1438, .lconst 0, 0, 0), (1439, .lstore 20, 0, 0)],
  [(1441, .iconst 0, 0, 0), (1442, .istore 22, 0, 0), (1444, .iload 22, 0, 0), (1446, .bipush 19, 19, 0), (1448, .if_icmp .ge 209, 0, 1657), (1451, .aload_n 1, 0, 0), (1452, .iload 22, 0, 0), (1454, .invokevirtual 122, 0, 990)],
  [(1457, .istore 23, 0, 0), (1459, .aload_n 1, 0, 0), (1460, .invokevirtual 107, 0, 1190), (1463, .lstore 24, 0, 0), (1465, .aload_n 1, 0, 0), (1466, .invokevirtual 38, 0, 1180), (1469, .istore 26, 0, 0), (1471, .aload_n 1, 0, 0)],
  [(1472, .iload 22, 0, 0), (1474, .invokevirtual 125, 0, 1010), (1477, .istore 27, 0, 0), (1479, .aload_n 1, 0, 0), (1480, .invokevirtual 38, 0, 1180), (1483, .istore 28, 0, 0), (1485, .iconst 0, 0, 0), (1486, .istore 29, 0, 0)],
  [(1488, .iconst 0, 0, 0), (1489, .istore 30, 0, 0), (1491, .iload 30, 0, 0), (1493, .iload_n 3, 0, 0), (1494, .if_icmp .ge 48, 0, 1542), (1497, .iload 29, 0, 0), (1499, .iload 26, 0, 0), (1501, .ifCond .le 31, 0, 1532)],
  [(1504, .iload 26, 0, 0), (1506, .aload 13, 0, 0), (1508, .iload 30, 0, 0), (1510, .iaload, 0, 0), (1511, .ishr, 0, 0), (1512, .iconst 1, 1, 0), (1513, .iand, 0, 0), (1514, .iconst 1, 1, 0), (1515, .if_icmp .ne 17, 0, 1532), (1518, .aload_n 1, 0, 0), (1519, .aload 13, 0, 0)],
  [(1521, .iload 30, 0, 0), (1523, .iaload, 0, 0), (1524, .iload 30, 0, 0), (1526, .invokevirtual 68, 0, 630), (1529, .goto 4, 0, 1533), (1532, .iconst 0, 0, 0), (1533, .iadd, 0, 0), (1534, .istore 29, 0, 0)]]
def qp_kL12 : List (List (Nat × Instr × Int32 × Nat)) := [
  [(1536, .iinc 30 1, 1, 0), (1539, .goto (-48), 0, 1491), (1542, .lload 20, 0, 0), (1544, .lload 24, 0, 0), (1546, .ladd, 0, 0), (1547, .lstore 20, 0, 0), (1549, .iload 23, 0, 0), (1551, .iconst 1, 1, 0)],
  [(1552, .if_icmp .ne 97, 0, 1649), (1555, .lload 24, 0, 0), (1557, .lconst 0, 0, 0), (1558, .lcmp, 0, 0), (1559, .ifCond .ne 7, 0, 1566), (1562, .iconst 1, 1, 0), (1563, .goto 4, 0, 1567), (1566, .iconst 0, 0, 0), (1567, .iload 26, 0, 0)],
  [(1569, .bipush (-9), (-9), 0), (1571, .if_icmp .ne 7, 0, 1578), (1574, .iconst 1, 1, 0), (1575, .goto 4, 0, 1579), (1578, .iconst 0, 0, 0), (1579, .if_icmp .ne 70, 0, 1649), (1582, .lload 24, 0, 0)],
  [(1584, .lconst 0, 0, 0), (1585, .lcmp, 0, 0), (1586, .ifCond .ne 7, 0, 1593), (1589, .iconst 1, 1, 0), (1590, .goto 4, 0, 1594), (1593, .iconst 0, 0, 0), (1594, .iload 27, 0, 0), (1596, .bipush (-3), (-3), 0), (1598, .if_icmp .ne 7, 0, 1605)],
  [(1601, .iconst 1, 1, 0), (1602, .goto 4, 0, 1606), (1605, .iconst 0, 0, 0), (1606, .if_icmp .ne 43, 0, 1649), (1609, .lload 24, 0, 0), (1611, .lconst 0, 0, 0), (1612, .lcmp, 0, 0), (1613, .ifCond .le 38, 0, 1651)],
  [(1616, .iload 29, 0, 0), (1618, .iload 22, 0, 0), (1620, .if_icmp .ne 29, 0, 1649), (1623, .iload 27, 0, 0), (1625, .iload 26, 0, 0), (1627, .iconst (-1), (-1), 0), (1628, .ixor, 0, 0), (1629, .iand, 0, 0), (1630, .ifCond .ne 19, 0, 1649)],
  [(1633, .iload 28, 0, 0), (1635, .iload 26, 0, 0), (1637, .iand, 0, 0), (1638, .ifCond .ne 11, 0, 1649), (1641, .iload 27, 0, 0), (1643, .iload 28, 0, 0), (1645, .iand, 0, 0), (1646, .ifCond .eq 5, 0, 1651)],
  [(1649, .iconst 0, 0, 0), (1650, .ireturn, 0, 0), (1651, .iinc 22 1, 1, 0), (1654, .goto (-210), 0, 1444), (1657, .lload 20, 0, 0), (1659, .lconst 1, 0, 0), (1660, .iload_n 3, 0, 0), (1661, .lshl, 0, 0), (1662, .lcmp, 0, 0), (1663, .ifCond .eq 5, 0, 1668)]]
def qp_kL13 : List (List (Nat × Instr × Int32 × Nat)) := [
  [(1666, .iconst 0, 0, 0), (1667, .ireturn, 0, 0), (1668, .iload_n 3, 0, 0), (1669, .iconst 1, 1, 0), (1670, .if_icmp .le 60, 0, 1730), (1673, .aload_n 1, 0, 0), (1674, .iconst 0, 0, 0), (1675, .iconst 1, 1, 0), (1676, .iconst 0, 0, 0), (1677, .invokevirtual 128, 0, 1020)],
  [(1680, .iconst 1, 1, 0), (1681, .if_icmp .ne 47, 0, 1728), (1684, .aload_n 1, 0, 0), (1685, .invokevirtual 38, 0, 1180), (1688, .aload 14, 0, 0), (1690, .iconst 0, 0, 0), (1691, .iaload, 0, 0), (1692, .aload 14, 0, 0), (1694, .iconst 1, 1, 0), (1695, .iaload, 0, 0)],
  [(1696, .isub, 0, 0), (1697, .if_icmp .ne 31, 0, 1728), (1700, .aload_n 1, 0, 0), (1701, .iconst 0, 0, 0), (1702, .iconst 1, 1, 0), (1703, .iconst 1, 1, 0), (1704, .invokevirtual 128, 0, 1020), (1707, .iconst 1, 1, 0), (1708, .if_icmp .ne 20, 0, 1728), (1711, .aload_n 1, 0, 0)],
  [(1712, .invokevirtual 38, 0, 1180), (1715, .iconst 3, 3, 0), (1716, .if_icmp .gt 12, 0, 1728), (1719, .aload_n 1, 0, 0), (1720, .invokevirtual 38, 0, 1180), (1723, .bipush (-3), (-3), 0), (1725, .if_icmp .ge 5, 0, 1730)],
  [(1728, .iconst 0, 0, 0), (1729, .ireturn, 0, 0), (1730, .aload_n 0, 0, 0), (1731, .bipush 21, 21, 0), (1733, .invokestatic 9, 0, 1311), (1736, .iload_n 3, 0, 0), (1737, .invokestatic 15, 0, 1321), (1740, .istore 22, 0, 0), (1742, .aload_n 0, 0, 0), (1743, .bipush 22, 22, 0)],
  [(1745, .invokestatic 9, 0, 1311), (1748, .bipush 13, 13, 0), (1750, .invokestatic 15, 0, 1321), (1753, .istore 23, 0, 0), (1755, .aload_n 1, 0, 0), (1756, .iload 22, 0, 0), (1758, .iconst 0, 0, 0), (1759, .invokevirtual 131, 0, 1060)],
  [(1762, .iconst 1, 1, 0), (1763, .if_icmp .ne 170, 0, 1933), (1766, .aload_n 1, 0, 0), (1767, .invokevirtual 107, 0, 1190), (1770, .iload 9, 0, 0), (1772, .iload 22, 0, 0), (1774, .ishr, 0, 0), (1775, .iconst 1, 1, 0)],
  [(1776, .iand, 0, 0), (1777, .i2l, 0, 0), (1778, .lcmp, 0, 0), (1779, .ifCond .ne 154, 0, 1933), (1782, .aload_n 1, 0, 0), (1783, .invokevirtual 113, 0, 1200), (1786, .lconst 1, 0, 0), (1787, .lcmp, 0, 0), (1788, .ifCond .ne 145, 0, 1933), (1791, .aload_n 1, 0, 0)]]
def qp_kL14 : List (List (Nat × Instr × Int32 × Nat)) := [
  [(1792, .iload 22, 0, 0), (1794, .bipush 12, 12, 0), (1796, .invokevirtual 131, 0, 1060), (1799, .iconst 1, 1, 0), (1800, .if_icmp .ne 133, 0, 1933), (1803, .aload_n 1, 0, 0), (1804, .invokevirtual 107, 0, 1190), (1807, .lconst 0, 0, 0)],
  [(1808, .lcmp, 0, 0), (1809, .ifCond .ne 124, 0, 1933), (1812, .aload_n 1, 0, 0), (1813, .iload 22, 0, 0), (1815, .iload 23, 0, 0), (1817, .invokevirtual 131, 0, 1060), (1820, .iconst 1, 1, 0), (1821, .if_icmp .ne 112, 0, 1933)],
  [(1824, .aload_n 1, 0, 0), (1825, .invokevirtual 107, 0, 1190), (1828, .lconst 0, 0, 0), (1829, .lcmp, 0, 0), (1830, .ifCond .lt 103, 0, 1933), (1833, .aload_n 1, 0, 0), (1834, .invokevirtual 107, 0, 1190), (1837, .aload_n 1, 0, 0), (1838, .invokevirtual 113, 0, 1200)],
  [(1841, .lcmp, 0, 0), (1842, .ifCond .gt 91, 0, 1933), (1845, .aload_n 1, 0, 0), (1846, .iconst 0, 0, 0), (1847, .invokevirtual 134, 0, 1120), (1850, .iconst 1, 1, 0), (1851, .if_icmp .ne 82, 0, 1933), (1854, .aload_n 1, 0, 0), (1855, .invokevirtual 107, 0, 1190)],
  [(1858, .iload 6, 0, 0), (1860, .iload 8, 0, 0), (1862, .isub, 0, 0), (1863, .i2l, 0, 0), (1864, .lcmp, 0, 0), (1865, .ifCond .ne 68, 0, 1933), (1868, .aload_n 1, 0, 0), (1869, .invokevirtual 113, 0, 1200)],
  [(1872, .lconst 1, 0, 0), (1873, .lcmp, 0, 0), (1874, .ifCond .ne 59, 0, 1933), (1877, .aload_n 1, 0, 0), (1878, .bipush 12, 12, 0), (1880, .invokevirtual 134, 0, 1120), (1883, .iconst 1, 1, 0), (1884, .if_icmp .ne 49, 0, 1933), (1887, .aload_n 1, 0, 0)],
  [(1888, .invokevirtual 107, 0, 1190), (1891, .iload 6, 0, 0), (1893, .i2l, 0, 0), (1894, .lcmp, 0, 0), (1895, .ifCond .ne 38, 0, 1933), (1898, .aload_n 1, 0, 0), (1899, .iload 23, 0, 0), (1901, .invokevirtual 134, 0, 1120)],
  [(1904, .iconst 1, 1, 0), (1905, .if_icmp .ne 28, 0, 1933), (1908, .aload_n 1, 0, 0), (1909, .invokevirtual 107, 0, 1190), (1912, .iload 6, 0, 0), (1914, .i2l, 0, 0), (1915, .aload_n 1, 0, 0), (1916, .invokevirtual 113, 0, 1200), (1919, .lmul, 0, 0)]]
def qp_kL15 : List (List (Nat × Instr × Int32 × Nat)) := [
  [(1920, .lcmp, 0, 0), (1921, .ifCond .gt 12, 0, 1933), (1924, .aload_n 1, 0, 0), (1925, .invokevirtual 107, 0, 1190), (1928, .lconst 0, 0, 0), (1929, .lcmp, 0, 0), (1930, .ifCond .ge 5, 0, 1935), (1933, .iconst 0, 0, 0), (1934, .ireturn, 0, 0), (1935, .aload_n 0, 0, 0)],
  [(1936, .bipush 23, 23, 0), (1938, .invokestatic 9, 0, 1311), (1941, .bipush 15, 15, 0), (1943, .invokestatic 15, 0, 1321), (1946, .istore 24, 0, 0), (1948, .bipush 16, 16, 0), (1950, .newarray .int, 0, 0)],
  [(1952, .astore 25, 0, 0), (1954, .bipush 16, 16, 0), (1956, .newarray .int, 0, 0), (1958, .astore 26, 0, 0), (1960, .iconst 0, 0, 0), (1961, .istore 27, 0, 0), (1963, .aload 25, 0, 0), (1965, .iconst 0, 0, 0), (1966, .aload_n 1, 0, 0), (1967, .iconst 0, 0, 0)],
  [(1968, .invokevirtual 61, 0, 620), (1971, .iastore, 0, 0), (1972, .aload 26, 0, 0), (1974, .iconst 0, 0, 0), (1975, .iload 8, 0, 0), (1977, .iastore, 0, 0), (1978, .iconst 0, 0, 0), (1979, .istore 28, 0, 0), (1981, .iload 28, 0, 0), (1983, .iload 24, 0, 0)],
  [(1985, .if_icmp .ge 176, 0, 2161), (1988, .aload_n 0, 0, 0), (1989, .bipush 24, 24, 0), (1991, .iload 28, 0, 0), (1993, .iadd, 0, 0), (1994, .invokestatic 9, 0, 1311), (1997, .istore 29, 0, 0), (1999, .iload 29, 0, 0)],
  [(2001, .iconst 4, 4, 0), (2002, .invokestatic 15, 0, 1321), (2005, .istore 30, 0, 0), (2007, .iload 30, 0, 0), (2009, .iconst 2, 2, 0), (2010, .if_icmp .ge 26, 0, 2036), (2013, .aload_n 1, 0, 0), (2014, .iload 29, 0, 0)],
  [(2016, .iconst 2, 2, 0), (2017, .ishr, 0, 0), (2018, .iload_n 3, 0, 0), (2019, .invokestatic 15, 0, 1321), (2022, .iload 29, 0, 0), (2024, .iconst 5, 5, 0), (2025, .ishr, 0, 0), (2026, .iload_n 3, 0, 0), (2027, .invokestatic 15, 0, 1321), (2030, .invokevirtual 77, 0, 420)],
  [(2033, .goto 56, 0, 2089), (2036, .iload 30, 0, 0), (2038, .iconst 2, 2, 0), (2039, .if_icmp .ne 36, 0, 2075), (2042, .aload_n 1, 0, 0), (2043, .iconst 2, 2, 0), (2044, .invokevirtual 55, 0, 1210), (2047, .ifCond .ne 8, 0, 2055)]]
def qp_kL16 : List (List (Nat × Instr × Int32 × Nat)) := [
  [(2050, .bipush (-4), (-4), 0), (2052, .goto 37, 0, 2089), (2055, .aload_n 1, 0, 0), (2056, .iload 29, 0, 0), (2058, .bipush 8, 8, 0), (2060, .ishr, 0, 0), (2061, .aload_n 1, 0, 0), (2062, .iconst 2, 2, 0), (2063, .invokevirtual 55, 0, 1210)],
  [(2066, .invokestatic 15, 0, 1321), (2069, .invokevirtual 86, 0, 540), (2072, .goto 17, 0, 2089), (2075, .aload_n 1, 0, 0), (2076, .iload 29, 0, 0), (2078, .bipush 8, 8, 0)],
  [(2080, .ishr, 0, 0), (2081, .bipush 21, 21, 0), (2083, .invokestatic 15, 0, 1321), (2086, .invokevirtual 137, 0, 560), (2089, .istore 31, 0, 0), (2091, .iload 31, 0, 0), (2093, .bipush (-4), (-4), 0), (2095, .if_icmp .eq 26, 0, 2121)],
  [(2098, .iinc 27 1, 1, 0), (2101, .aload 25, 0, 0), (2103, .iload 27, 0, 0), (2105, .aload_n 1, 0, 0), (2106, .iconst 0, 0, 0), (2107, .invokevirtual 61, 0, 620), (2110, .iastore, 0, 0), (2111, .aload 26, 0, 0)],
  [(2113, .iload 27, 0, 0), (2115, .aload_n 1, 0, 0), (2116, .iconst 5, 5, 0), (2117, .invokevirtual 55, 0, 1210), (2120, .iastore, 0, 0), (2121, .iload 31, 0, 0), (2123, .bipush (-4), (-4), 0), (2125, .if_icmp .lt 28, 0, 2153)],
  [(2128, .iload 31, 0, 0), (2130, .bipush (-4), (-4), 0), (2132, .if_icmp .le 8, 0, 2140), (2135, .iload 31, 0, 0), (2137, .ifCond .lt 16, 0, 2153), (2140, .aload_n 1, 0, 0), (2141, .iconst 3, 3, 0), (2142, .invokevirtual 55, 0, 1210)],
  [(2145, .iload 4, 0, 0), (2147, .iload 27, 0, 0), (2149, .iadd, 0, 0), (2150, .if_icmp .eq 5, 0, 2155), (2153, .iconst 0, 0, 0), (2154, .ireturn, 0, 0), (2155, .iinc 28 1, 1, 0), (2158, .goto (-177), 0, 1981)],
  [(2161, .iload 27, 0, 0), (2163, .istore 28, 0, 0), (2165, .iload 28, 0, 0), (2167, .ifCond .lt 61, 0, 2228), (2170, .aload_n 1, 0, 0), (2171, .iload 4, 0, 0), (2173, .iload 28, 0, 0), (2175, .iadd, 0, 0)]]
def qp_kL17 : List (List (Nat × Instr × Int32 × Nat)) := [
  [(2176, .invokevirtual 80, 0, 570), (2179, .iload 28, 0, 0), (2181, .iload 27, 0, 0), (2183, .if_icmp .ne 7, 0, 2190), (2186, .iconst 0, 0, 0), (2187, .goto 4, 0, 2191), (2190, .iconst 1, 1, 0), (2191, .if_icmp .ne 29, 0, 2220)],
  [(2194, .aload_n 1, 0, 0), (2195, .iconst 0, 0, 0), (2196, .invokevirtual 61, 0, 620), (2199, .aload 25, 0, 0), (2201, .iload 28, 0, 0), (2203, .iaload, 0, 0), (2204, .if_icmp .ne 16, 0, 2220), (2207, .aload_n 1, 0, 0)],
  [(2208, .iconst 5, 5, 0), (2209, .invokevirtual 55, 0, 1210), (2212, .aload 26, 0, 0), (2214, .iload 28, 0, 0), (2216, .iaload, 0, 0), (2217, .if_icmp .eq 5, 0, 2222), (2220, .iconst 0, 0, 0), (2221, .ireturn, 0, 0), (2222, .iinc 28 (-1), (-1), 0)],
  [(2225, .goto (-60), 0, 2165), (2228, .aload_n 1, 0, 0), (2229, .invokevirtual 140, 0, 1250), (2232, .lstore 28, 0, 0), (2234, .aload_n 1, 0, 0), (2235, .iconst 0, 0, 0), (2236, .invokevirtual 80, 0, 570), (2239, .iload 4, 0, 0)],
  [(2241, .if_icmp .ne 84, 0, 2325), (2244, .aload_n 1, 0, 0), (2245, .iconst 2, 2, 0), (2246, .invokevirtual 55, 0, 1210), (2249, .ifCond .ne 76, 0, 2325), (2252, .aload_n 1, 0, 0), (2253, .iload_n 3, 0, 0), (2254, .iconst 1, 1, 0), (2255, .isub, 0, 0)],
  [(2256, .invokevirtual 61, 0, 620), (2259, .iload_n 3, 0, 0), (2260, .iconst 1, 1, 0), (2261, .isub, 0, 0), (2262, .if_icmp .ne 63, 0, 2325), (2265, .aload_n 1, 0, 0), (2266, .iconst 0, 0, 0), (2267, .invokevirtual 89, 0, 610), (2270, .iload 4, 0, 0)],
  [(2272, .if_icmp .ne 53, 0, 2325), (2275, .aload_n 1, 0, 0), (2276, .invokevirtual 140, 0, 1250), (2279, .lload 28, 0, 0), (2281, .lcmp, 0, 0), (2282, .ifCond .ne 43, 0, 2325), (2285, .aload_n 1, 0, 0), (2286, .iconst 0, 0, 0), (2287, .invokevirtual 32, 0, 260)],
  [(2290, .iload_n 3, 0, 0), (2291, .if_icmp .ne 34, 0, 2325), (2294, .aload_n 1, 0, 0), (2295, .iconst 0, 0, 0), (2296, .invokevirtual 89, 0, 610), (2299, .bipush (-3), (-3), 0), (2301, .if_icmp .ne 24, 0, 2325)]]
def qp_kL18 : List (List (Nat × Instr × Int32 × Nat)) := [
  [(2304, .aload_n 1, 0, 0), (2305, .iconst 3, 3, 0), (2306, .invokevirtual 55, 0, 1210), (2309, .ifCond .ne 16, 0, 2325), (2312, .iload 10, 0, 0), (2314, .invokestatic 143, 0, 1381), (2317, .iload_n 3, 0, 0), (2318, .if_icmp .ne 7, 0, 2325)],
  [(2321, .iconst 1, 1, 0), (2322, .goto 4, 0, 2326), (2325, .iconst 0, 0, 0), (2326, .ireturn, 0, 0)]]
def qp_kL : List (List (Nat × Instr × Int32 × Nat)) := qp_kL0 ++ (qp_kL1 ++ (qp_kL2 ++ (qp_kL3 ++ (qp_kL4 ++ (qp_kL5 ++ (qp_kL6 ++ (qp_kL7 ++ (qp_kL8 ++ (qp_kL9 ++ (qp_kL10 ++ (qp_kL11 ++ (qp_kL12 ++ (qp_kL13 ++ (qp_kL14 ++ (qp_kL15 ++ (qp_kL16 ++ (qp_kL17 ++ (qp_kL18))))))))))))))))))
def qp_ks : List (List (List (Nat × Instr × Int32 × Nat))) := [qp_k0, qp_k1, qp_k2, qp_k3, qp_k4, qp_k5, qp_k6, qp_k7, qp_k8, qp_k9, qp_k10, qp_k11, qp_k12, qp_k13, qp_k14, qp_k15, qp_k16, qp_k17, qp_k18, qp_k19, qp_k20, qp_k21, qp_k22, qp_k23, qp_k24, qp_k25, qp_k26, qp_k27, qp_k28, qp_k29, qp_k30, qp_k31, qp_k32, qp_k33, qp_k34, qp_k35, qp_k36, qp_k37, qp_k38, qp_k39, qp_k40, qp_k41, qp_k42, qp_k43, qp_k44, qp_k45, qp_k46, qp_k47, qp_k48, qp_k49, qp_k50, qp_k51, qp_k52, qp_k53, qp_k54, qp_k55, qp_k56, qp_k57, qp_k58, qp_k59, qp_k60, qp_k61, qp_k62, qp_k63, qp_k64, qp_k65, qp_k66, qp_k67, qp_k68, qp_k69, qp_k70, qp_k71, qp_k72, qp_k73, qp_k74, qp_k75, qp_k76, qp_k77, qp_k78, qp_k79, qp_k80, qp_k81, qp_k82, qp_k83, qp_k84, qp_k85, qp_k86, qp_k87, qp_k88, qp_k89, qp_k90, qp_k91, qp_k92, qp_k93, qp_k94, qp_k95, qp_k96, qp_k97, qp_k98, qp_k99, qp_k100, qp_k101, qp_k102, qp_k103, qp_k104, qp_k105, qp_k106, qp_k107, qp_k108, qp_k109, qp_k110, qp_k111, qp_k112, qp_k113, qp_k114, qp_k115, qp_k116, qp_k117, qp_k118, qp_k119, qp_k120, qp_k121, qp_k122, qp_k123, qp_k124, qp_k125, qp_k126, qp_k127, qp_k128, qp_k129, qp_k130, qp_k131, qp_k132, qp_k133, qp_k134, qp_k135, qp_k136, qp_k137, qp_k138, qp_k139, qp_k140]
def qp_kk (mi : Nat) : List (List (Nat × Instr × Int32 × Nat)) := qp_ks.getD mi []

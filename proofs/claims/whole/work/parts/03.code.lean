/-! the code: of each method its instructions by sixteens of bytes: (place, instruction, constant, target or what is named) -/
def qp_k0 : List (List (Nat × Instr × Int32 × Nat)) := [
  [(0, .aload_n 0, 0, 0), (1, .invokespecial 1, 0, 5), (4, .aload_n 0, 0, 0), (5, .new 7, 0, 1), (8, .dup, 0, 0), (9, .bipush 6, 6, 0), (11, .bipush 40, 40, 0), (13, .invokespecial 11, 0, 12)],
  [(16, .putfield 14, 0, 0), (19, .aload_n 0, 0, 0), (20, .new 7, 0, 1), (23, .dup, 0, 0), (24, .iconst 4, 4, 0), (25, .bipush 60, 60, 0), (27, .invokespecial 11, 0, 12), (30, .putfield 18, 0, 1)],
  [(33, .aload_n 0, 0, 0), (34, .new 7, 0, 1), (37, .dup, 0, 0), (38, .iconst 3, 3, 0), (39, .bipush 40, 40, 0), (41, .invokespecial 11, 0, 12), (44, .putfield 21, 0, 2), (47, .aload_n 0, 0, 0)],
  [(48, .new 24, 0, 2), (51, .dup, 0, 0), (52, .aload_n 0, 0, 0), (53, .getfield 18, 0, 1), (56, .invokespecial 26, 0, 32), (59, .putfield 29, 0, 3), (62, .aload_n 0, 0, 0), (63, .new 33, 0, 4)],
  [(66, .dup, 0, 0), (67, .invokespecial 35, 0, 54), (70, .putfield 36, 0, 4), (73, .aload_n 0, 0, 0), (74, .new 40, 0, 6), (77, .dup, 0, 0), (78, .aload_n 0, 0, 0), (79, .getfield 36, 0, 4)],
  [(82, .invokespecial 42, 0, 72), (85, .putfield 45, 0, 5), (88, .aload_n 0, 0, 0), (89, .new 49, 0, 7), (92, .dup, 0, 0), (93, .aload_n 0, 0, 0), (94, .getfield 36, 0, 4)],
  [(97, .invokespecial 51, 0, 82), (100, .putfield 52, 0, 6), (103, .aload_n 0, 0, 0), (104, .new 56, 0, 8), (107, .dup, 0, 0), (108, .aload_n 0, 0, 0), (109, .getfield 36, 0, 4)],
  [(112, .invokespecial 58, 0, 92), (115, .putfield 59, 0, 7), (118, .aload_n 0, 0, 0), (119, .new 63, 0, 9), (122, .dup, 0, 0), (123, .aload_n 0, 0, 0), (124, .getfield 36, 0, 4), (127, .invokespecial 65, 0, 102)],
  [(130, .putfield 66, 0, 8), (133, .aload_n 0, 0, 0), (134, .bipush 6, 6, 0), (136, .newarray .int, 0, 0), (138, .putfield 70, 0, 9), (141, .aload_n 0, 0, 0), (142, .lconst 1, 0, 0), (143, .putfield 74, 0, 13)],
  [(146, .return_, 0, 0)]]
def qp_k1 : List (List (Nat × Instr × Int32 × Nat)) := [
  [(0, .aload_n 0, 0, 0), (1, .invokespecial 1, 0, 5), (4, .aload_n 0, 0, 0), (5, .iload_n 2, 0, 0), (6, .putfield 7, 0, 100), (9, .aload_n 0, 0, 0), (10, .iload_n 1, 0, 0), (11, .iconst 0, 0, 0), (12, .invokestatic 13, 0, 21), (15, .newarray .int, 0, 0)],
  [(17, .putfield 19, 0, 101), (20, .aload_n 0, 0, 0), (21, .iload_n 1, 0, 0), (22, .iload_n 2, 0, 0), (23, .imul, 0, 0), (24, .iconst 0, 0, 0), (25, .invokestatic 13, 0, 21), (28, .newarray .int, 0, 0), (30, .putfield 23, 0, 102)],
  [(33, .iconst 0, 0, 0), (34, .istore_n 3, 0, 0), (35, .iload_n 3, 0, 0), (36, .aload_n 0, 0, 0), (37, .getfield 19, 0, 101), (40, .arraylength, 0, 0), (41, .if_icmp .ge 16, 0, 57), (44, .aload_n 0, 0, 0), (45, .getfield 19, 0, 101)],
  [(48, .iload_n 3, 0, 0), (49, .iconst (-1), (-1), 0), (50, .iastore, 0, 0), (51, .iinc 3 1, 1, 0), (54, .goto (-19), 0, 35), (57, .return_, 0, 0)]]
def qp_k2 : List (List (Nat × Instr × Int32 × Nat)) := [
  [(0, .iload_n 0, 0, 0), (1, .iload_n 1, 0, 0), (2, .if_icmp .lt 7, 0, 9), (5, .iload_n 0, 0, 0), (6, .goto 4, 0, 10), (9, .iload_n 1, 0, 0), (10, .ireturn, 0, 0)]]
def qp_k3 : List (List (Nat × Instr × Int32 × Nat)) := [
  [(0, .aload_n 0, 0, 0), (1, .invokespecial 3, 0, 5), (4, .aload_n 0, 0, 0), (5, .new 9, 0, 3), (8, .dup, 0, 0), (9, .invokespecial 11, 0, 44), (12, .putfield 12, 0, 200), (15, .aload_n 0, 0, 0)],
  [(16, .aload_n 1, 0, 0), (17, .putfield 18, 0, 201), (20, .return_, 0, 0)]]
def qp_k4 : List (List (Nat × Instr × Int32 × Nat)) := [
  [(0, .aload_n 0, 0, 0), (1, .invokespecial 3, 0, 5), (4, .aload_n 0, 0, 0), (5, .bipush 6, 6, 0), (7, .newarray .int, 0, 0), (9, .putfield 9, 0, 302), (12, .aload_n 0, 0, 0), (13, .bipush 6, 6, 0), (15, .newarray .int, 0, 0)],
  [(17, .putfield 15, 0, 303), (20, .return_, 0, 0)]]
def qp_k5 : List (List (Nat × Instr × Int32 × Nat)) := [
  [(0, .aload_n 0, 0, 0), (1, .invokespecial 3, 0, 5), (4, .aload_n 0, 0, 0), (5, .new 9, 0, 3), (8, .dup, 0, 0), (9, .invokespecial 11, 0, 44), (12, .putfield 12, 0, 400), (15, .aload_n 0, 0, 0)],
  [(16, .new 18, 0, 5), (19, .dup, 0, 0), (20, .aload_n 0, 0, 0), (21, .getfield 12, 0, 400), (24, .invokespecial 20, 0, 62), (27, .putfield 23, 0, 401), (30, .aload_n 0, 0, 0), (31, .bipush 12, 12, 0)],
  [(33, .newarray .int, 0, 0), (35, .putfield 27, 0, 406), (38, .aload_n 0, 0, 0), (39, .bipush 40, 40, 0), (41, .newarray .int, 0, 0), (43, .putfield 31, 0, 407), (46, .return_, 0, 0)]]
def qp_k6 : List (List (Nat × Instr × Int32 × Nat)) := [
  [(0, .aload_n 0, 0, 0), (1, .invokespecial 3, 0, 5), (4, .aload_n 0, 0, 0), (5, .bipush 6, 6, 0), (7, .newarray .int, 0, 0), (9, .putfield 9, 0, 506), (12, .aload_n 0, 0, 0), (13, .bipush 6, 6, 0), (15, .newarray .int, 0, 0)],
  [(17, .putfield 15, 0, 507), (20, .aload_n 0, 0, 0), (21, .bipush 6, 6, 0), (23, .newarray .int, 0, 0), (25, .putfield 18, 0, 508), (28, .aload_n 0, 0, 0), (29, .bipush 6, 6, 0), (31, .newarray .int, 0, 0)],
  [(33, .putfield 21, 0, 509), (36, .aload_n 0, 0, 0), (37, .aload_n 1, 0, 0), (38, .putfield 24, 0, 502), (41, .return_, 0, 0)]]
def qp_k7 : List (List (Nat × Instr × Int32 × Nat)) := [
  [(0, .aload_n 0, 0, 0), (1, .invokespecial 3, 0, 5), (4, .aload_n 0, 0, 0), (5, .sipush 720, 720, 0), (8, .newarray .int, 0, 0), (10, .putfield 9, 0, 601), (13, .aload_n 0, 0, 0), (14, .sipush 720, 720, 0)],
  [(17, .newarray .int, 0, 0), (19, .putfield 15, 0, 602), (22, .aload_n 0, 0, 0), (23, .sipush 720, 720, 0), (26, .newarray .boolean, 0, 0), (28, .putfield 18, 0, 603), (31, .aload_n 0, 0, 0)],
  [(32, .aload_n 1, 0, 0), (33, .putfield 22, 0, 600), (36, .return_, 0, 0)]]
def qp_k8 : List (List (Nat × Instr × Int32 × Nat)) := [
  [(0, .aload_n 0, 0, 0), (1, .invokespecial 3, 0, 5), (4, .aload_n 0, 0, 0), (5, .bipush 6, 6, 0), (7, .newarray .int, 0, 0), (9, .putfield 9, 0, 702), (12, .aload_n 0, 0, 0), (13, .bipush 6, 6, 0), (15, .newarray .int, 0, 0)],
  [(17, .putfield 15, 0, 703), (20, .aload_n 0, 0, 0), (21, .bipush 24, 24, 0), (23, .newarray .int, 0, 0), (25, .putfield 18, 0, 704), (28, .aload_n 0, 0, 0), (29, .aload_n 1, 0, 0), (30, .putfield 21, 0, 701)],
  [(33, .return_, 0, 0)]]
def qp_k9 : List (List (Nat × Instr × Int32 × Nat)) := [
  [(0, .aload_n 0, 0, 0), (1, .invokespecial 1, 0, 5), (4, .aload_n 0, 0, 0), (5, .aload_n 1, 0, 0), (6, .putfield 7, 0, 800), (9, .return_, 0, 0)]]
def qp_k10 : List (List (Nat × Instr × Int32 × Nat)) := [
  [(0, .aload_n 0, 0, 0), (1, .invokespecial 3, 0, 5), (4, .aload_n 0, 0, 0), (5, .aload_n 1, 0, 0), (6, .putfield 9, 0, 900), (9, .return_, 0, 0)]]
def qp_k11 : List (List (Nat × Instr × Int32 × Nat)) := [
  [(0, .aload_n 0, 0, 0), (1, .aload_n 0, 0, 0), (2, .getfield 14, 0, 0), (5, .iload_n 1, 0, 0), (6, .iload_n 2, 0, 0), (7, .iconst 0, 0, 0), (8, .invokevirtual 78, 0, 120), (11, .ireturn, 0, 0)]]
def qp_k12 : List (List (Nat × Instr × Int32 × Nat)) := [
  [(0, .aload_n 1, 0, 0), (1, .iload_n 2, 0, 0), (2, .invokevirtual 106, 0, 130), (5, .ifCond .eq 11, 0, 16), (8, .iload_n 3, 0, 0), (9, .aload_n 1, 0, 0), (10, .getfield 312, 0, 100), (13, .if_icmp .le 5, 0, 18)],
  [(16, .iconst (-1), (-1), 0), (17, .ireturn, 0, 0), (18, .iload_n 3, 0, 0), (19, .ifCond .ge 9, 0, 28), (22, .aload_n 0, 0, 0), (23, .iconst 5, 5, 0), (24, .invokevirtual 110, 0, 140), (27, .ireturn, 0, 0), (28, .aload_n 1, 0, 0), (29, .iload_n 2, 0, 0), (30, .iload_n 3, 0, 0), (31, .iload 4, 0, 0)],
  [(33, .invokevirtual 215, 0, 150), (36, .iload_n 3, 0, 0), (37, .ireturn, 0, 0)]]
def qp_k13 : List (List (Nat × Instr × Int32 × Nat)) := [
  [(0, .iload_n 1, 0, 0), (1, .ifCond .lt 16, 0, 17), (4, .iload_n 1, 0, 0), (5, .aload_n 0, 0, 0), (6, .getfield 19, 0, 101), (9, .arraylength, 0, 0), (10, .if_icmp .ge 7, 0, 17), (13, .iconst 1, 1, 0), (14, .goto 4, 0, 18)],
  [(17, .iconst 0, 0, 0), (18, .ireturn, 0, 0)]]
def qp_k14 : List (List (Nat × Instr × Int32 × Nat)) := [
  [(0, .aload_n 0, 0, 0), (1, .iload_n 1, 0, 0), (2, .putfield 298, 0, 10), (5, .iload_n 1, 0, 0), (6, .iconst 1, 1, 0), (7, .if_icmp .lt 18, 0, 25), (10, .iload_n 1, 0, 0), (11, .iconst 5, 5, 0), (12, .if_icmp .gt 13, 0, 25), (15, .aload_n 0, 0, 0)],
  [(16, .getfield 70, 0, 9), (19, .iload_n 1, 0, 0), (20, .dup2, 0, 0), (21, .iaload, 0, 0), (22, .iconst 1, 1, 0), (23, .iadd, 0, 0), (24, .iastore, 0, 0), (25, .bipush (-3), (-3), 0), (27, .ireturn, 0, 0)]]
def qp_k15 : List (List (Nat × Instr × Int32 × Nat)) := [
  [(0, .aload_n 0, 0, 0), (1, .iload_n 1, 0, 0), (2, .invokevirtual 26, 0, 130), (5, .ifCond .eq 45, 0, 50), (8, .iload_n 2, 0, 0), (9, .ifCond .lt 41, 0, 50), (12, .iload_n 2, 0, 0), (13, .aload_n 0, 0, 0), (14, .getfield 7, 0, 100)],
  [(17, .if_icmp .gt 33, 0, 50), (20, .aload_n 0, 0, 0), (21, .getfield 19, 0, 101), (24, .iload_n 1, 0, 0), (25, .iload_n 2, 0, 0), (26, .iastore, 0, 0), (27, .iconst 0, 0, 0), (28, .istore 4, 0, 0), (30, .iload 4, 0, 0)],
  [(32, .iload_n 2, 0, 0), (33, .if_icmp .ge 17, 0, 50), (36, .aload_n 0, 0, 0), (37, .iload_n 1, 0, 0), (38, .iload 4, 0, 0), (40, .iload_n 3, 0, 0), (41, .invokevirtual 41, 0, 160), (44, .iinc 4 1, 1, 0), (47, .goto (-17), 0, 30)],
  [(50, .return_, 0, 0)]]
def qp_k16 : List (List (Nat × Instr × Int32 × Nat)) := [
  [(0, .iload_n 1, 0, 0), (1, .aload_n 0, 0, 0), (2, .getfield 7, 0, 100), (5, .imul, 0, 0), (6, .iload_n 2, 0, 0), (7, .iadd, 0, 0), (8, .istore 4, 0, 0), (10, .aload_n 0, 0, 0), (11, .iload_n 1, 0, 0), (12, .iload_n 2, 0, 0), (13, .invokevirtual 37, 0, 170)],
  [(16, .ifCond .eq 26, 0, 42), (19, .iload 4, 0, 0), (21, .ifCond .lt 21, 0, 42), (24, .iload 4, 0, 0), (26, .aload_n 0, 0, 0), (27, .getfield 23, 0, 102), (30, .arraylength, 0, 0), (31, .if_icmp .ge 11, 0, 42)],
  [(34, .aload_n 0, 0, 0), (35, .getfield 23, 0, 102), (38, .iload 4, 0, 0), (40, .iload_n 3, 0, 0), (41, .iastore, 0, 0), (42, .return_, 0, 0)]]
def qp_k17 : List (List (Nat × Instr × Int32 × Nat)) := [
  [(0, .aload_n 0, 0, 0), (1, .iload_n 1, 0, 0), (2, .invokevirtual 26, 0, 130), (5, .ifCond .eq 21, 0, 26), (8, .iload_n 2, 0, 0), (9, .ifCond .lt 17, 0, 26), (12, .iload_n 2, 0, 0), (13, .aload_n 0, 0, 0), (14, .getfield 19, 0, 101)],
  [(17, .iload_n 1, 0, 0), (18, .iaload, 0, 0), (19, .if_icmp .ge 7, 0, 26), (22, .iconst 1, 1, 0), (23, .goto 4, 0, 27), (26, .iconst 0, 0, 0), (27, .ireturn, 0, 0)]]
def qp_k18 : List (List (Nat × Instr × Int32 × Nat)) := [
  [(0, .aload_n 0, 0, 0), (1, .aload_n 0, 0, 0), (2, .getfield 14, 0, 0), (5, .iload_n 1, 0, 0), (6, .iload_n 2, 0, 0), (7, .invokevirtual 82, 0, 190), (10, .istore 4, 0, 0), (12, .iload 4, 0, 0), (14, .ifCond .eq 6, 0, 20)],
  [(17, .iload 4, 0, 0), (19, .ireturn, 0, 0), (20, .aload_n 0, 0, 0), (21, .getfield 14, 0, 0), (24, .iload_n 1, 0, 0), (25, .iload_n 2, 0, 0), (26, .invokevirtual 86, 0, 230), (29, .istore 5, 0, 0), (31, .aload_n 0, 0, 0)],
  [(32, .getfield 14, 0, 0), (35, .iload_n 1, 0, 0), (36, .iload_n 2, 0, 0), (37, .iload_n 3, 0, 0), (38, .invokevirtual 90, 0, 160), (41, .aload_n 0, 0, 0), (42, .iload 5, 0, 0), (44, .invokevirtual 94, 0, 240), (47, .ireturn, 0, 0)]]
def qp_k19 : List (List (Nat × Instr × Int32 × Nat)) := [
  [(0, .aload_n 0, 0, 0), (1, .aload_n 1, 0, 0), (2, .iload_n 2, 0, 0), (3, .invokevirtual 98, 0, 200), (6, .istore 4, 0, 0), (8, .iload 4, 0, 0), (10, .ifCond .eq 6, 0, 16), (13, .iload 4, 0, 0), (15, .ireturn, 0, 0)],
  [(16, .aload_n 1, 0, 0), (17, .iload_n 2, 0, 0), (18, .iload_n 3, 0, 0), (19, .invokevirtual 309, 0, 170), (22, .ifCond .eq 7, 0, 29), (25, .iconst 0, 0, 0), (26, .goto 8, 0, 34), (29, .aload_n 0, 0, 0), (30, .iconst 2, 2, 0), (31, .invokevirtual 110, 0, 140)],
  [(34, .ireturn, 0, 0)]]
def qp_k20 : List (List (Nat × Instr × Int32 × Nat)) := [
  [(0, .aload_n 1, 0, 0), (1, .iload_n 2, 0, 0), (2, .invokevirtual 106, 0, 130), (5, .ifCond .ne 5, 0, 10), (8, .iconst (-1), (-1), 0), (9, .ireturn, 0, 0), (10, .aload_n 1, 0, 0), (11, .iload_n 2, 0, 0), (12, .invokevirtual 113, 0, 210), (15, .ifCond .eq 7, 0, 22)],
  [(18, .iconst 0, 0, 0), (19, .goto 8, 0, 27), (22, .aload_n 0, 0, 0), (23, .iconst 1, 1, 0), (24, .invokevirtual 110, 0, 140), (27, .ireturn, 0, 0)]]
def qp_k21 : List (List (Nat × Instr × Int32 × Nat)) := [
  [(0, .aload_n 0, 0, 0), (1, .iload_n 1, 0, 0), (2, .invokevirtual 30, 0, 220), (5, .iconst (-1), (-1), 0), (6, .if_icmp .eq 7, 0, 13), (9, .iconst 1, 1, 0), (10, .goto 4, 0, 14), (13, .iconst 0, 0, 0), (14, .ireturn, 0, 0)]]
def qp_k22 : List (List (Nat × Instr × Int32 × Nat)) := [
  [(0, .aload_n 0, 0, 0), (1, .iload_n 1, 0, 0), (2, .invokevirtual 26, 0, 130), (5, .ifCond .eq 12, 0, 17), (8, .aload_n 0, 0, 0), (9, .getfield 19, 0, 101), (12, .iload_n 1, 0, 0), (13, .iaload, 0, 0), (14, .goto 4, 0, 18)],
  [(17, .iconst (-1), (-1), 0), (18, .ireturn, 0, 0)]]
def qp_k23 : List (List (Nat × Instr × Int32 × Nat)) := [
  [(0, .iload_n 1, 0, 0), (1, .aload_n 0, 0, 0), (2, .getfield 7, 0, 100), (5, .imul, 0, 0), (6, .iload_n 2, 0, 0), (7, .iadd, 0, 0), (8, .istore_n 3, 0, 0), (9, .aload_n 0, 0, 0), (10, .iload_n 1, 0, 0), (11, .iload_n 2, 0, 0), (12, .invokevirtual 37, 0, 170), (15, .ifCond .eq 25, 0, 40)],
  [(18, .iload_n 3, 0, 0), (19, .ifCond .lt 21, 0, 40), (22, .iload_n 3, 0, 0), (23, .aload_n 0, 0, 0), (24, .getfield 23, 0, 102), (27, .arraylength, 0, 0), (28, .if_icmp .ge 12, 0, 40), (31, .aload_n 0, 0, 0)],
  [(32, .getfield 23, 0, 102), (35, .iload_n 3, 0, 0), (36, .iaload, 0, 0), (37, .goto 4, 0, 41), (40, .iconst 0, 0, 0), (41, .ireturn, 0, 0)]]
def qp_k24 : List (List (Nat × Instr × Int32 × Nat)) := [
  [(0, .aload_n 0, 0, 0), (1, .iload_n 1, 0, 0), (2, .putfield 289, 0, 11), (5, .iconst 1, 1, 0), (6, .ireturn, 0, 0)]]
def qp_k25 : List (List (Nat × Instr × Int32 × Nat)) := [
  [(0, .aload_n 0, 0, 0), (1, .aload_n 0, 0, 0), (2, .getfield 14, 0, 0), (5, .iload_n 1, 0, 0), (6, .iload_n 2, 0, 0), (7, .invokevirtual 82, 0, 190), (10, .istore_n 3, 0, 0), (11, .iload_n 3, 0, 0), (12, .ifCond .eq 5, 0, 17), (15, .iload_n 3, 0, 0)],
  [(16, .ireturn, 0, 0), (17, .aload_n 0, 0, 0), (18, .aload_n 0, 0, 0), (19, .getfield 14, 0, 0), (22, .iload_n 1, 0, 0), (23, .iload_n 2, 0, 0), (24, .invokevirtual 86, 0, 230), (27, .invokevirtual 94, 0, 240), (30, .ireturn, 0, 0)]]
def qp_k26 : List (List (Nat × Instr × Int32 × Nat)) := [
  [(0, .aload_n 0, 0, 0), (1, .aload_n 0, 0, 0), (2, .getfield 14, 0, 0), (5, .iload_n 1, 0, 0), (6, .invokevirtual 98, 0, 200), (9, .istore_n 2, 0, 0), (10, .iload_n 2, 0, 0), (11, .ifCond .eq 5, 0, 16), (14, .iload_n 2, 0, 0), (15, .ireturn, 0, 0)],
  [(16, .aload_n 0, 0, 0), (17, .getfield 14, 0, 0), (20, .iload_n 1, 0, 0), (21, .invokevirtual 102, 0, 270), (24, .iconst 1, 1, 0), (25, .ireturn, 0, 0)]]
def qp_k27 : List (List (Nat × Instr × Int32 × Nat)) := [
  [(0, .aload_n 0, 0, 0), (1, .iload_n 1, 0, 0), (2, .invokevirtual 26, 0, 130), (5, .ifCond .eq 10, 0, 15), (8, .aload_n 0, 0, 0), (9, .getfield 19, 0, 101), (12, .iload_n 1, 0, 0), (13, .iconst (-1), (-1), 0), (14, .iastore, 0, 0), (15, .return_, 0, 0)]]
def qp_k28 : List (List (Nat × Instr × Int32 × Nat)) := [
  [(0, .aload_n 0, 0, 0), (1, .getfield 14, 0, 0), (4, .iload_n 1, 0, 0), (5, .invokevirtual 106, 0, 130), (8, .ifCond .eq 14, 0, 22), (11, .aload_n 0, 0, 0), (12, .getfield 14, 0, 0), (15, .iload_n 3, 0, 0)],
  [(16, .invokevirtual 106, 0, 130), (19, .ifCond .ne 5, 0, 24), (22, .iconst (-1), (-1), 0), (23, .ireturn, 0, 0), (24, .iload 5, 0, 0), (26, .ifCond .ge 9, 0, 35), (29, .aload_n 0, 0, 0), (30, .iconst 5, 5, 0), (31, .invokevirtual 110, 0, 140)],
  [(34, .ireturn, 0, 0), (35, .aload_n 0, 0, 0), (36, .getfield 14, 0, 0), (39, .iload_n 1, 0, 0), (40, .invokevirtual 113, 0, 210), (43, .ifCond .eq 14, 0, 57), (46, .aload_n 0, 0, 0), (47, .getfield 14, 0, 0)],
  [(50, .iload_n 3, 0, 0), (51, .invokevirtual 113, 0, 210), (54, .ifCond .ne 9, 0, 63), (57, .aload_n 0, 0, 0), (58, .iconst 1, 1, 0), (59, .invokevirtual 110, 0, 140), (62, .ireturn, 0, 0), (63, .aload_n 0, 0, 0)],
  [(64, .getfield 14, 0, 0), (67, .iload_n 1, 0, 0), (68, .iload_n 2, 0, 0), (69, .iload 5, 0, 0), (71, .invokevirtual 116, 0, 290), (74, .ifCond .eq 18, 0, 92), (77, .aload_n 0, 0, 0), (78, .getfield 14, 0, 0)],
  [(81, .iload_n 3, 0, 0), (82, .iload 4, 0, 0), (84, .iload 5, 0, 0), (86, .invokevirtual 116, 0, 290), (89, .ifCond .ne 9, 0, 98), (92, .aload_n 0, 0, 0), (93, .iconst 2, 2, 0), (94, .invokevirtual 110, 0, 140)],
  [(97, .ireturn, 0, 0), (98, .aload_n 0, 0, 0), (99, .getfield 14, 0, 0), (102, .iload_n 1, 0, 0), (103, .iload_n 2, 0, 0), (104, .iload_n 3, 0, 0), (105, .iload 4, 0, 0), (107, .iload 5, 0, 0), (109, .invokevirtual 120, 0, 300)],
  [(112, .iconst 1, 1, 0), (113, .ireturn, 0, 0)]]
def qp_k29 : List (List (Nat × Instr × Int32 × Nat)) := [
  [(0, .aload_n 0, 0, 0), (1, .iload_n 1, 0, 0), (2, .invokevirtual 34, 0, 210), (5, .ifCond .eq 26, 0, 31), (8, .iload_n 3, 0, 0), (9, .ifCond .lt 22, 0, 31), (12, .iload_n 2, 0, 0), (13, .ifCond .lt 18, 0, 31)],
  [(16, .iload_n 2, 0, 0), (17, .aload_n 0, 0, 0), (18, .iload_n 1, 0, 0), (19, .invokevirtual 30, 0, 220), (22, .iload_n 3, 0, 0), (23, .isub, 0, 0), (24, .if_icmp .gt 7, 0, 31), (27, .iconst 1, 1, 0), (28, .goto 4, 0, 32), (31, .iconst 0, 0, 0)],
  [(32, .ireturn, 0, 0)]]
def qp_k30 : List (List (Nat × Instr × Int32 × Nat)) := [
  [(0, .aload_n 0, 0, 0), (1, .iload_n 1, 0, 0), (2, .iload_n 2, 0, 0), (3, .iload 5, 0, 0), (5, .invokevirtual 45, 0, 290), (8, .ifCond .eq 15, 0, 23), (11, .aload_n 0, 0, 0), (12, .iload_n 3, 0, 0), (13, .iload 4, 0, 0), (15, .iload 5, 0, 0)],
  [(17, .invokevirtual 45, 0, 290), (20, .ifCond .ne 4, 0, 24), (23, .return_, 0, 0), (24, .iload_n 1, 0, 0), (25, .aload_n 0, 0, 0), (26, .getfield 7, 0, 100), (29, .imul, 0, 0), (30, .iload_n 2, 0, 0), (31, .iadd, 0, 0)],
  [(32, .istore 6, 0, 0), (34, .iload_n 3, 0, 0), (35, .aload_n 0, 0, 0), (36, .getfield 7, 0, 100), (39, .imul, 0, 0), (40, .iload 4, 0, 0), (42, .iadd, 0, 0), (43, .istore 7, 0, 0), (45, .iload 6, 0, 0), (47, .iload 7, 0, 0)],
  [(49, .invokestatic 49, 0, 311), (52, .ifCond .lt 38, 0, 90), (55, .iload 6, 0, 0), (57, .iload 7, 0, 0), (59, .invokestatic 13, 0, 21), (62, .aload_n 0, 0, 0), (63, .getfield 23, 0, 102)],
  [(66, .arraylength, 0, 0), (67, .iload 5, 0, 0), (69, .isub, 0, 0), (70, .if_icmp .gt 20, 0, 90), (73, .aload_n 0, 0, 0), (74, .getfield 23, 0, 102), (77, .iload 6, 0, 0), (79, .aload_n 0, 0, 0)],
  [(80, .getfield 23, 0, 102), (83, .iload 7, 0, 0), (85, .iload 5, 0, 0), (87, .invokestatic 52, 0, 6), (90, .return_, 0, 0)]]
def qp_k31 : List (List (Nat × Instr × Int32 × Nat)) := [
  [(0, .iload_n 0, 0, 0), (1, .iload_n 1, 0, 0), (2, .if_icmp .gt 7, 0, 9), (5, .iload_n 0, 0, 0), (6, .goto 4, 0, 10), (9, .iload_n 1, 0, 0), (10, .ireturn, 0, 0)]]
def qp_k32 : List (List (Nat × Instr × Int32 × Nat)) := [
  [(0, .aload_n 0, 0, 0), (1, .aload_n 0, 0, 0), (2, .getfield 14, 0, 0), (5, .iload_n 1, 0, 0), (6, .invokevirtual 98, 0, 200), (9, .istore_n 2, 0, 0), (10, .iload_n 2, 0, 0), (11, .ifCond .eq 5, 0, 16), (14, .iload_n 2, 0, 0), (15, .ireturn, 0, 0)],
  [(16, .aload_n 0, 0, 0), (17, .getfield 14, 0, 0), (20, .iload_n 1, 0, 0), (21, .invokevirtual 124, 0, 220), (24, .istore_n 3, 0, 0), (25, .iload_n 3, 0, 0), (26, .ifCond .gt 9, 0, 35), (29, .aload_n 0, 0, 0), (30, .iconst 4, 4, 0), (31, .invokevirtual 110, 0, 140)],
  [(34, .ireturn, 0, 0), (35, .aload_n 0, 0, 0), (36, .aload_n 0, 0, 0), (37, .getfield 14, 0, 0), (40, .iload_n 1, 0, 0), (41, .invokevirtual 127, 0, 330), (44, .iload_n 3, 0, 0), (45, .i2l, 0, 0), (46, .ldiv, 0, 0), (47, .l2i, 0, 0)],
  [(48, .invokevirtual 94, 0, 240), (51, .ireturn, 0, 0)]]
def qp_k33 : List (List (Nat × Instr × Int32 × Nat)) := [
  [(0, .lconst 0, 0, 0), (1, .lstore_n 2, 0, 0), (2, .iconst 0, 0, 0), (3, .istore 4, 0, 0), (5, .iload 4, 0, 0), (7, .aload_n 0, 0, 0), (8, .iload_n 1, 0, 0), (9, .invokevirtual 30, 0, 220), (12, .if_icmp .ge 20, 0, 32), (15, .lload_n 2, 0, 0)],
  [(16, .aload_n 0, 0, 0), (17, .iload_n 1, 0, 0), (18, .iload 4, 0, 0), (20, .invokevirtual 58, 0, 230), (23, .i2l, 0, 0), (24, .ladd, 0, 0), (25, .lstore_n 2, 0, 0), (26, .iinc 4 1, 1, 0), (29, .goto (-24), 0, 5)],
  [(32, .lload_n 2, 0, 0), (33, .lreturn, 0, 0)]]
def qp_k34 : List (List (Nat × Instr × Int32 × Nat)) := [
  [(0, .aload_n 0, 0, 0), (1, .aload_n 0, 0, 0), (2, .getfield 18, 0, 1), (5, .iload_n 1, 0, 0), (6, .iload_n 2, 0, 0), (7, .bipush 32, 32, 0), (9, .invokevirtual 78, 0, 120), (12, .ireturn, 0, 0)]]
def qp_k35 : List (List (Nat × Instr × Int32 × Nat)) := [
  [(0, .aload_n 0, 0, 0), (1, .aload_n 0, 0, 0), (2, .getfield 18, 0, 1), (5, .iload_n 1, 0, 0), (6, .iload_n 2, 0, 0), (7, .invokevirtual 82, 0, 190), (10, .istore 4, 0, 0), (12, .iload 4, 0, 0), (14, .ifCond .eq 6, 0, 20)],
  [(17, .iload 4, 0, 0), (19, .ireturn, 0, 0), (20, .aload_n 0, 0, 0), (21, .getfield 18, 0, 1), (24, .iload_n 1, 0, 0), (25, .iload_n 2, 0, 0), (26, .invokevirtual 86, 0, 230), (29, .istore 5, 0, 0), (31, .aload_n 0, 0, 0)],
  [(32, .getfield 18, 0, 1), (35, .iload_n 1, 0, 0), (36, .iload_n 2, 0, 0), (37, .iload_n 3, 0, 0), (38, .i2b, 0, 0), (39, .invokevirtual 90, 0, 160), (42, .iload 5, 0, 0), (44, .sipush 1000, 1000, 0), (47, .iadd, 0, 0)],
  [(48, .ireturn, 0, 0)]]
def qp_k36 : List (List (Nat × Instr × Int32 × Nat)) := [
  [(0, .aload_n 0, 0, 0), (1, .aload_n 0, 0, 0), (2, .getfield 18, 0, 1), (5, .iload_n 1, 0, 0), (6, .invokevirtual 98, 0, 200), (9, .istore_n 2, 0, 0), (10, .iload_n 2, 0, 0), (11, .ifCond .eq 5, 0, 16), (14, .iload_n 2, 0, 0), (15, .ireturn, 0, 0)],
  [(16, .aload_n 0, 0, 0), (17, .getfield 29, 0, 3), (20, .iload_n 1, 0, 0), (21, .invokevirtual 131, 0, 370), (24, .ireturn, 0, 0)]]
def qp_k37 : List (List (Nat × Instr × Int32 × Nat)) := [
  [(0, .aload_n 0, 0, 0), (1, .iload_n 1, 0, 0), (2, .putfield 22, 0, 202), (5, .aload_n 0, 0, 0), (6, .iconst 0, 0, 0), (7, .putfield 26, 0, 203), (10, .aload_n 0, 0, 0), (11, .getfield 12, 0, 200), (14, .invokevirtual 29, 0, 380)],
  [(17, .aload_n 0, 0, 0), (18, .invokevirtual 32, 0, 390), (21, .aload_n 0, 0, 0), (22, .getfield 26, 0, 203), (25, .aload_n 0, 0, 0), (26, .getfield 18, 0, 201), (29, .aload_n 0, 0, 0), (30, .getfield 22, 0, 202)],
  [(33, .invokevirtual 35, 0, 220), (36, .if_icmp .ge 23, 0, 59), (39, .aload_n 0, 0, 0), (40, .getfield 18, 0, 201), (43, .aload_n 0, 0, 0), (44, .getfield 22, 0, 202), (47, .aload_n 0, 0, 0)],
  [(48, .getfield 26, 0, 203), (51, .invokevirtual 41, 0, 230), (54, .bipush 113, 113, 0), (56, .if_icmp .eq 8, 0, 64), (59, .aload_n 0, 0, 0), (60, .getfield 26, 0, 203), (63, .ireturn, 0, 0)],
  [(64, .aload_n 0, 0, 0), (65, .dup, 0, 0), (66, .getfield 26, 0, 203), (69, .iconst 1, 1, 0), (70, .iadd, 0, 0), (71, .putfield 26, 0, 203), (74, .aload_n 0, 0, 0), (75, .invokevirtual 45, 0, 400), (78, .ifCond .eq 10, 0, 88)],
  [(81, .aload_n 0, 0, 0), (82, .invokevirtual 49, 0, 420), (85, .goto 7, 0, 92), (88, .aload_n 0, 0, 0), (89, .getfield 26, 0, 203), (92, .ireturn, 0, 0)]]
def qp_k38 : List (List (Nat × Instr × Int32 × Nat)) := [
  [(0, .aload_n 0, 0, 0), (1, .iconst 0, 0, 0), (2, .putfield 18, 0, 300), (5, .aload_n 0, 0, 0), (6, .iconst 0, 0, 0), (7, .putfield 22, 0, 301), (10, .return_, 0, 0)]]
def qp_k39 : List (List (Nat × Instr × Int32 × Nat)) := [
  [(0, .aload_n 0, 0, 0), (1, .getfield 26, 0, 203), (4, .aload_n 0, 0, 0), (5, .getfield 18, 0, 201), (8, .aload_n 0, 0, 0), (9, .getfield 22, 0, 202), (12, .invokevirtual 35, 0, 220), (15, .if_icmp .ge 36, 0, 51)],
  [(18, .aload_n 0, 0, 0), (19, .getfield 18, 0, 201), (22, .aload_n 0, 0, 0), (23, .getfield 22, 0, 202), (26, .aload_n 0, 0, 0), (27, .getfield 26, 0, 203), (30, .invokevirtual 41, 0, 230)],
  [(33, .bipush 32, 32, 0), (35, .if_icmp .ne 16, 0, 51), (38, .aload_n 0, 0, 0), (39, .dup, 0, 0), (40, .getfield 26, 0, 203), (43, .iconst 1, 1, 0), (44, .iadd, 0, 0), (45, .putfield 26, 0, 203)],
  [(48, .goto (-48), 0, 0), (51, .return_, 0, 0)]]
def qp_k40 : List (List (Nat × Instr × Int32 × Nat)) := [
  [(0, .aload_n 0, 0, 0), (1, .aload_n 0, 0, 0), (2, .getfield 26, 0, 203), (5, .invokevirtual 53, 0, 410), (8, .istore_n 1, 0, 0), (9, .iload_n 1, 0, 0), (10, .ifCond .ge 5, 0, 15), (13, .iconst 0, 0, 0), (14, .ireturn, 0, 0), (15, .aload_n 0, 0, 0)],
  [(16, .aload_n 0, 0, 0), (17, .getfield 26, 0, 203), (20, .iconst 1, 1, 0), (21, .iadd, 0, 0), (22, .invokevirtual 53, 0, 410), (25, .istore_n 2, 0, 0), (26, .iload_n 2, 0, 0), (27, .ifCond .ge 15, 0, 42), (30, .aload_n 0, 0, 0), (31, .dup, 0, 0)],
  [(32, .getfield 26, 0, 203), (35, .iconst 1, 1, 0), (36, .iadd, 0, 0), (37, .putfield 26, 0, 203), (40, .iconst 0, 0, 0), (41, .ireturn, 0, 0), (42, .aload_n 0, 0, 0), (43, .getfield 12, 0, 200), (46, .bipush 10, 10, 0)],
  [(48, .iload_n 1, 0, 0), (49, .imul, 0, 0), (50, .iload_n 2, 0, 0), (51, .iadd, 0, 0), (52, .putfield 56, 0, 301), (55, .aload_n 0, 0, 0), (56, .getfield 12, 0, 200), (59, .getfield 56, 0, 301), (62, .bipush 20, 20, 0)],
  [(64, .if_icmp .le 5, 0, 69), (67, .iconst 0, 0, 0), (68, .ireturn, 0, 0), (69, .aload_n 0, 0, 0), (70, .dup, 0, 0), (71, .getfield 26, 0, 203), (74, .iconst 2, 2, 0), (75, .iadd, 0, 0), (76, .putfield 26, 0, 203), (79, .iconst 1, 1, 0)],
  [(80, .ireturn, 0, 0)]]
def qp_k41 : List (List (Nat × Instr × Int32 × Nat)) := [
  [(0, .aload_n 0, 0, 0), (1, .getfield 18, 0, 201), (4, .aload_n 0, 0, 0), (5, .getfield 22, 0, 202), (8, .iload_n 1, 0, 0), (9, .invokevirtual 41, 0, 230), (12, .istore_n 2, 0, 0), (13, .aload_n 0, 0, 0), (14, .getfield 18, 0, 201)],
  [(17, .aload_n 0, 0, 0), (18, .getfield 22, 0, 202), (21, .iload_n 1, 0, 0), (22, .invokevirtual 66, 0, 170), (25, .ifCond .eq 19, 0, 44), (28, .iload_n 2, 0, 0), (29, .bipush 48, 48, 0), (31, .if_icmp .lt 13, 0, 44)],
  [(34, .iload_n 2, 0, 0), (35, .bipush 57, 57, 0), (37, .if_icmp .gt 7, 0, 44), (40, .iconst 1, 1, 0), (41, .goto 4, 0, 45), (44, .iconst 0, 0, 0), (45, .istore_n 3, 0, 0), (46, .iload_n 3, 0, 0), (47, .ifCond .eq 10, 0, 57)],
  [(50, .iload_n 2, 0, 0), (51, .bipush 48, 48, 0), (53, .isub, 0, 0), (54, .goto 4, 0, 58), (57, .iconst (-1), (-1), 0), (58, .ireturn, 0, 0)]]
def qp_k42 : List (List (Nat × Instr × Int32 × Nat)) := [
  [(0, .iconst 0, 0, 0), (1, .istore_n 1, 0, 0), (2, .iload_n 1, 0, 0), (3, .bipush 6, 6, 0), (5, .if_icmp .gt 110, 0, 115), (8, .aload_n 0, 0, 0), (9, .invokevirtual 32, 0, 390), (12, .iload_n 1, 0, 0), (13, .ifCond .le 24, 0, 37)],
  [(16, .aload_n 0, 0, 0), (17, .getfield 26, 0, 203), (20, .aload_n 0, 0, 0), (21, .getfield 18, 0, 201), (24, .aload_n 0, 0, 0), (25, .getfield 22, 0, 202), (28, .invokevirtual 35, 0, 220), (31, .if_icmp .lt 6, 0, 37)],
  [(34, .bipush (-9), (-9), 0), (36, .ireturn, 0, 0), (37, .aload_n 0, 0, 0), (38, .aload_n 0, 0, 0), (39, .getfield 26, 0, 203), (42, .invokevirtual 59, 0, 430), (45, .istore_n 2, 0, 0), (46, .iload_n 2, 0, 0), (47, .ifCond .lt 9, 0, 56)],
  [(50, .iload_n 1, 0, 0), (51, .bipush 6, 6, 0), (53, .if_icmp .ne 8, 0, 61), (56, .aload_n 0, 0, 0), (57, .getfield 26, 0, 203), (60, .ireturn, 0, 0), (61, .aload_n 0, 0, 0), (62, .dup, 0, 0), (63, .getfield 26, 0, 203)],
  [(66, .iconst 1, 1, 0), (67, .iadd, 0, 0), (68, .putfield 26, 0, 203), (71, .aload_n 0, 0, 0), (72, .aload_n 0, 0, 0), (73, .getfield 26, 0, 203), (76, .invokevirtual 53, 0, 410), (79, .istore_n 3, 0, 0)],
  [(80, .iload_n 3, 0, 0), (81, .iconst 1, 1, 0), (82, .if_icmp .ge 8, 0, 90), (85, .aload_n 0, 0, 0), (86, .getfield 26, 0, 203), (89, .ireturn, 0, 0), (90, .aload_n 0, 0, 0), (91, .dup, 0, 0), (92, .getfield 26, 0, 203), (95, .iconst 1, 1, 0)],
  [(96, .iadd, 0, 0), (97, .putfield 26, 0, 203), (100, .aload_n 0, 0, 0), (101, .getfield 12, 0, 200), (104, .iload_n 2, 0, 0), (105, .iload_n 3, 0, 0), (106, .invokevirtual 62, 0, 440), (109, .iinc 1 1, 1, 0)],
  [(112, .goto (-110), 0, 2), (115, .aload_n 0, 0, 0), (116, .getfield 26, 0, 203), (119, .ireturn, 0, 0)]]
def qp_k43 : List (List (Nat × Instr × Int32 × Nat)) := [
  [(0, .aload_n 0, 0, 0), (1, .getfield 18, 0, 201), (4, .aload_n 0, 0, 0), (5, .getfield 22, 0, 202), (8, .iload_n 1, 0, 0), (9, .invokevirtual 66, 0, 170), (12, .ifCond .ne 5, 0, 17), (15, .iconst (-1), (-1), 0)],
  [(16, .ireturn, 0, 0), (17, .iconst 0, 0, 0), (18, .istore_n 2, 0, 0), (19, .iload_n 2, 0, 0), (20, .getstatic 70, 0, 1), (23, .arraylength, 0, 0), (24, .if_icmp .ge 31, 0, 55), (27, .aload_n 0, 0, 0), (28, .getfield 18, 0, 201), (31, .aload_n 0, 0, 0)],
  [(32, .getfield 22, 0, 202), (35, .iload_n 1, 0, 0), (36, .invokevirtual 41, 0, 230), (39, .getstatic 70, 0, 1), (42, .iload_n 2, 0, 0), (43, .iaload, 0, 0), (44, .if_icmp .ne 5, 0, 49), (47, .iload_n 2, 0, 0)],
  [(48, .ireturn, 0, 0), (49, .iinc 2 1, 1, 0), (52, .goto (-33), 0, 19), (55, .iconst (-1), (-1), 0), (56, .ireturn, 0, 0)]]
def qp_k44 : List (List (Nat × Instr × Int32 × Nat)) := [
  [(0, .aload_n 0, 0, 0), (1, .getfield 18, 0, 300), (4, .ifCond .lt 57, 0, 61), (7, .aload_n 0, 0, 0), (8, .getfield 18, 0, 300), (11, .aload_n 0, 0, 0), (12, .getfield 9, 0, 302), (15, .arraylength, 0, 0)],
  [(16, .if_icmp .ge 45, 0, 61), (19, .aload_n 0, 0, 0), (20, .getfield 18, 0, 300), (23, .aload_n 0, 0, 0), (24, .getfield 15, 0, 303), (27, .arraylength, 0, 0), (28, .if_icmp .ge 33, 0, 61), (31, .aload_n 0, 0, 0)],
  [(32, .getfield 9, 0, 302), (35, .aload_n 0, 0, 0), (36, .getfield 18, 0, 300), (39, .iload_n 1, 0, 0), (40, .iastore, 0, 0), (41, .aload_n 0, 0, 0), (42, .getfield 15, 0, 303), (45, .aload_n 0, 0, 0), (46, .getfield 18, 0, 300)],
  [(49, .iload_n 2, 0, 0), (50, .iastore, 0, 0), (51, .aload_n 0, 0, 0), (52, .dup, 0, 0), (53, .getfield 18, 0, 300), (56, .iconst 1, 1, 0), (57, .iadd, 0, 0), (58, .putfield 18, 0, 300), (61, .return_, 0, 0)]]
def qp_k45 : List (List (Nat × Instr × Int32 × Nat)) := [
  [(0, .aload_n 0, 0, 0), (1, .aload_n 0, 0, 0), (2, .getfield 18, 0, 1), (5, .iload_n 1, 0, 0), (6, .invokevirtual 98, 0, 200), (9, .istore_n 2, 0, 0), (10, .iload_n 2, 0, 0), (11, .ifCond .eq 5, 0, 16), (14, .iload_n 2, 0, 0), (15, .ireturn, 0, 0)],
  [(16, .aload_n 0, 0, 0), (17, .getfield 29, 0, 3), (20, .iload_n 1, 0, 0), (21, .invokevirtual 131, 0, 370), (24, .bipush (-9), (-9), 0), (26, .if_icmp .eq 6, 0, 32), (29, .bipush (-4), (-4), 0), (31, .ireturn, 0, 0)],
  [(32, .aload_n 0, 0, 0), (33, .getfield 36, 0, 4), (36, .getfield 134, 0, 400), (39, .aload_n 0, 0, 0), (40, .getfield 29, 0, 3), (43, .getfield 138, 0, 200), (46, .invokevirtual 139, 0, 460)],
  [(49, .aload_n 0, 0, 0), (50, .getfield 36, 0, 4), (53, .invokevirtual 145, 0, 490), (56, .iconst 0, 0, 0), (57, .istore_n 3, 0, 0), (58, .iload_n 3, 0, 0), (59, .iconst 3, 3, 0), (60, .if_icmp .ge 17, 0, 77), (63, .aload_n 0, 0, 0)],
  [(64, .getfield 21, 0, 2), (67, .iload_n 3, 0, 0), (68, .invokevirtual 102, 0, 270), (71, .iinc 3 1, 1, 0), (74, .goto (-16), 0, 58), (77, .aload_n 0, 0, 0), (78, .getfield 36, 0, 4)],
  [(81, .getfield 134, 0, 400), (84, .getfield 148, 0, 300), (87, .ireturn, 0, 0)]]
def qp_k46 : List (List (Nat × Instr × Int32 × Nat)) := [
  [(0, .aload_n 0, 0, 0), (1, .invokevirtual 25, 0, 380), (4, .aload_n 0, 0, 0), (5, .aload_n 1, 0, 0), (6, .getfield 22, 0, 301), (9, .putfield 22, 0, 301), (12, .iconst 0, 0, 0), (13, .istore_n 2, 0, 0), (14, .iload_n 2, 0, 0), (15, .aload_n 1, 0, 0)],
  [(16, .getfield 18, 0, 300), (19, .if_icmp .ge 23, 0, 42), (22, .aload_n 0, 0, 0), (23, .aload_n 1, 0, 0), (24, .iload_n 2, 0, 0), (25, .invokevirtual 28, 0, 470), (28, .aload_n 1, 0, 0), (29, .iload_n 2, 0, 0), (30, .invokevirtual 32, 0, 480)],
  [(33, .invokevirtual 35, 0, 440), (36, .iinc 2 1, 1, 0), (39, .goto (-25), 0, 14), (42, .return_, 0, 0)]]
def qp_k47 : List (List (Nat × Instr × Int32 × Nat)) := [
  [(0, .iload_n 1, 0, 0), (1, .ifCond .lt 21, 0, 22), (4, .iload_n 1, 0, 0), (5, .aload_n 0, 0, 0), (6, .getfield 9, 0, 302), (9, .arraylength, 0, 0), (10, .if_icmp .ge 12, 0, 22), (13, .aload_n 0, 0, 0), (14, .getfield 9, 0, 302)],
  [(17, .iload_n 1, 0, 0), (18, .iaload, 0, 0), (19, .goto 4, 0, 23), (22, .iconst 0, 0, 0), (23, .ireturn, 0, 0)]]
def qp_k48 : List (List (Nat × Instr × Int32 × Nat)) := [
  [(0, .iload_n 1, 0, 0), (1, .ifCond .lt 21, 0, 22), (4, .iload_n 1, 0, 0), (5, .aload_n 0, 0, 0), (6, .getfield 15, 0, 303), (9, .arraylength, 0, 0), (10, .if_icmp .ge 12, 0, 22), (13, .aload_n 0, 0, 0), (14, .getfield 15, 0, 303)],
  [(17, .iload_n 1, 0, 0), (18, .iaload, 0, 0), (19, .goto 4, 0, 23), (22, .iconst 0, 0, 0), (23, .ireturn, 0, 0)]]
def qp_k49 : List (List (Nat × Instr × Int32 × Nat)) := [
  [(0, .aload_n 0, 0, 0), (1, .aload_n 0, 0, 0), (2, .getfield 12, 0, 400), (5, .getfield 34, 0, 300), (8, .invokestatic 38, 0, 501), (11, .putfield 44, 0, 402), (14, .aload_n 0, 0, 0), (15, .aload_n 0, 0, 0)],
  [(16, .getfield 12, 0, 400), (19, .getfield 47, 0, 301), (22, .putfield 50, 0, 403), (25, .aload_n 0, 0, 0), (26, .iconst 0, 0, 0), (27, .putfield 51, 0, 404), (30, .aload_n 0, 0, 0), (31, .iconst 0, 0, 0)],
  [(32, .putfield 54, 0, 405), (35, .return_, 0, 0)]]
def qp_k50 : List (List (Nat × Instr × Int32 × Nat)) := [
  [(0, .iconst 0, 0, 0), (1, .istore_n 1, 0, 0), (2, .iconst 0, 0, 0), (3, .istore_n 2, 0, 0), (4, .iload_n 2, 0, 0), (5, .iload_n 0, 0, 0), (6, .if_icmp .ge 16, 0, 22), (9, .iload_n 1, 0, 0), (10, .iload_n 2, 0, 0), (11, .iload_n 2, 0, 0), (12, .invokestatic 7, 0, 511), (15, .istore_n 1, 0, 0)],
  [(16, .iinc 2 1, 1, 0), (19, .goto (-15), 0, 4), (22, .iload_n 1, 0, 0), (23, .ireturn, 0, 0)]]
def qp_k51 : List (List (Nat × Instr × Int32 × Nat)) := [
  [(0, .iload_n 0, 0, 0), (1, .iload_n 2, 0, 0), (2, .iconst 3, 3, 0), (3, .iload_n 1, 0, 0), (4, .imul, 0, 0), (5, .ishl, 0, 0), (6, .ior, 0, 0), (7, .ireturn, 0, 0)]]
def qp_k52 : List (List (Nat × Instr × Int32 × Nat)) := [
  [(0, .aload_n 0, 0, 0), (1, .getfield 36, 0, 4), (4, .getfield 134, 0, 400), (7, .iload_n 1, 0, 0), (8, .invokevirtual 152, 0, 530), (11, .ifCond .eq 13, 0, 24), (14, .iload_n 2, 0, 0), (15, .ifCond .lt 9, 0, 24)],
  [(18, .iload_n 2, 0, 0), (19, .bipush 6, 6, 0), (21, .if_icmp .le 5, 0, 26), (24, .iconst (-1), (-1), 0), (25, .ireturn, 0, 0), (26, .aload_n 0, 0, 0), (27, .getfield 36, 0, 4), (30, .aload_n 0, 0, 0), (31, .getfield 36, 0, 4)],
  [(34, .getfield 153, 0, 402), (37, .invokevirtual 156, 0, 540), (40, .aload_n 0, 0, 0), (41, .aload_n 0, 0, 0), (42, .iload_n 1, 0, 0), (43, .iload_n 2, 0, 0), (44, .invokevirtual 159, 0, 600), (47, .invokevirtual 94, 0, 240)],
  [(50, .ireturn, 0, 0)]]
def qp_k53 : List (List (Nat × Instr × Int32 × Nat)) := [
  [(0, .iload_n 1, 0, 0), (1, .ifCond .lt 15, 0, 16), (4, .iload_n 1, 0, 0), (5, .aload_n 0, 0, 0), (6, .getfield 18, 0, 300), (9, .if_icmp .ge 7, 0, 16), (12, .iconst 1, 1, 0), (13, .goto 4, 0, 17)],
  [(16, .iconst 0, 0, 0), (17, .ireturn, 0, 0)]]
def qp_k54 : List (List (Nat × Instr × Int32 × Nat)) := [
  [(0, .aload_n 0, 0, 0), (1, .getfield 23, 0, 401), (4, .iload_n 1, 0, 0), (5, .aload_n 0, 0, 0), (6, .getfield 12, 0, 400), (9, .getfield 34, 0, 300), (12, .aload_n 0, 0, 0), (13, .getfield 50, 0, 403)],
  [(16, .invokevirtual 57, 0, 550), (19, .return_, 0, 0)]]
def qp_k55 : List (List (Nat × Instr × Int32 × Nat)) := [
  [(0, .aload_n 0, 0, 0), (1, .iload_n 3, 0, 0), (2, .putfield 28, 0, 503), (5, .aload_n 0, 0, 0), (6, .iload_n 3, 0, 0), (7, .putfield 32, 0, 504), (10, .aload_n 0, 0, 0), (11, .iconst 0, 0, 0), (12, .putfield 35, 0, 505), (15, .aload_n 0, 0, 0)],
  [(16, .iconst 0, 0, 0), (17, .putfield 38, 0, 500), (20, .aload_n 0, 0, 0), (21, .iconst 0, 0, 0), (22, .putfield 41, 0, 501), (25, .iconst 0, 0, 0), (26, .istore 4, 0, 0), (28, .iload 4, 0, 0), (30, .iconst 2, 2, 0), (31, .if_icmp .ge 86, 0, 117)],
  [(34, .iconst 0, 0, 0), (35, .istore 5, 0, 0), (37, .iload 5, 0, 0), (39, .iload_n 2, 0, 0), (40, .if_icmp .ge 71, 0, 111), (43, .iload_n 1, 0, 0), (44, .iload 5, 0, 0), (46, .invokestatic 44, 0, 561)],
  [(49, .istore 6, 0, 0), (51, .aload_n 0, 0, 0), (52, .getfield 24, 0, 502), (55, .iload 6, 0, 0), (57, .invokevirtual 50, 0, 470), (60, .istore 7, 0, 0), (62, .iload 7, 0, 0)],
  [(64, .iconst 1, 1, 0), (65, .invokestatic 56, 0, 571), (68, .iload 4, 0, 0), (70, .ifCond .ne 7, 0, 77), (73, .iconst 1, 1, 0), (74, .goto 4, 0, 78), (77, .iconst 0, 0, 0), (78, .if_icmp .ne 27, 0, 105)],
  [(81, .aload_n 0, 0, 0), (82, .iload 6, 0, 0), (84, .iload 7, 0, 0), (86, .iload 5, 0, 0), (88, .iload_n 2, 0, 0), (89, .iconst 1, 1, 0), (90, .isub, 0, 0), (91, .if_icmp .ne 7, 0, 98), (94, .iconst 1, 1, 0), (95, .goto 4, 0, 99)],
  [(98, .iconst 0, 0, 0), (99, .invokestatic 60, 0, 581), (102, .invokevirtual 64, 0, 590), (105, .iinc 5 1, 1, 0), (108, .goto (-71), 0, 37), (111, .iinc 4 1, 1, 0)],
  [(114, .goto (-86), 0, 28), (117, .return_, 0, 0)]]
def qp_k56 : List (List (Nat × Instr × Int32 × Nat)) := [
  [(0, .iload_n 0, 0, 0), (1, .iconst 3, 3, 0), (2, .iload_n 1, 0, 0), (3, .imul, 0, 0), (4, .ishr, 0, 0), (5, .bipush 7, 7, 0), (7, .iand, 0, 0), (8, .ireturn, 0, 0)]]
def qp_k57 : List (List (Nat × Instr × Int32 × Nat)) := [
  [(0, .iload_n 0, 0, 0), (1, .iload_n 1, 0, 0), (2, .if_icmp .eq 23, 0, 25), (5, .iload_n 0, 0, 0), (6, .iconst 4, 4, 0), (7, .if_icmp .ne 8, 0, 15), (10, .iload_n 1, 0, 0), (11, .iconst 1, 1, 0), (12, .if_icmp .eq 13, 0, 25), (15, .iload_n 0, 0, 0)],
  [(16, .iconst 5, 5, 0), (17, .if_icmp .ne 12, 0, 29), (20, .iload_n 1, 0, 0), (21, .iconst 2, 2, 0), (22, .if_icmp .ne 7, 0, 29), (25, .iconst 1, 1, 0), (26, .goto 4, 0, 30), (29, .iconst 0, 0, 0), (30, .ireturn, 0, 0)]]
def qp_k58 : List (List (Nat × Instr × Int32 × Nat)) := [
  [(0, .iload_n 0, 0, 0), (1, .tableswitch 47 2 5 #[31, 33, 35, 37], 0, 31)],
  [],
  [(32, .iconst 0, 0, 0), (33, .ireturn, 0, 0), (34, .iconst 2, 2, 0), (35, .ireturn, 0, 0), (36, .iconst 3, 3, 0), (37, .ireturn, 0, 0), (38, .iload_n 1, 0, 0), (39, .ifCond .eq 7, 0, 46), (42, .iconst 1, 1, 0), (43, .goto 4, 0, 47), (46, .iconst 0, 0, 0), (47, .ireturn, 0, 0)],
  [(48, .iconst 1, 1, 0), (49, .ireturn, 0, 0)]]
def qp_k59 : List (List (Nat × Instr × Int32 × Nat)) := [
  [(0, .iload_n 1, 0, 0), (1, .ifCond .lt 9, 0, 10), (4, .iload_n 1, 0, 0), (5, .bipush 6, 6, 0), (7, .if_icmp .lt 4, 0, 11), (10, .return_, 0, 0), (11, .aload_n 0, 0, 0), (12, .getfield 35, 0, 505), (15, .aload_n 0, 0, 0)],
  [(16, .getfield 24, 0, 502), (19, .iload_n 1, 0, 0), (20, .invokevirtual 68, 0, 480), (23, .if_icmp .le 7, 0, 30), (26, .iconst 1, 1, 0), (27, .goto 4, 0, 31), (30, .iconst 0, 0, 0), (31, .istore_n 3, 0, 0)],
  [(32, .iload_n 3, 0, 0), (33, .ifCond .eq 7, 0, 40), (36, .iconst 0, 0, 0), (37, .goto 11, 0, 48), (40, .iload_n 2, 0, 0), (41, .aload_n 0, 0, 0), (42, .getfield 32, 0, 504), (45, .invokestatic 71, 0, 311)],
  [(48, .istore 4, 0, 0), (50, .aload_n 0, 0, 0), (51, .getfield 9, 0, 506), (54, .iload_n 1, 0, 0), (55, .iload_n 2, 0, 0), (56, .iastore, 0, 0), (57, .aload_n 0, 0, 0), (58, .getfield 15, 0, 507), (61, .iload_n 1, 0, 0), (62, .iload 4, 0, 0)],
  [(64, .iastore, 0, 0), (65, .aload_n 0, 0, 0), (66, .getfield 18, 0, 508), (69, .iload_n 1, 0, 0), (70, .aload_n 0, 0, 0), (71, .getfield 35, 0, 505), (74, .iastore, 0, 0), (75, .aload_n 0, 0, 0), (76, .getfield 21, 0, 509), (79, .iload_n 1, 0, 0)],
  [(80, .aload_n 0, 0, 0), (81, .getfield 32, 0, 504), (84, .iastore, 0, 0), (85, .iload_n 3, 0, 0), (86, .ifCond .eq 15, 0, 101), (89, .aload_n 0, 0, 0), (90, .dup, 0, 0), (91, .getfield 38, 0, 500), (94, .iconst 1, 1, 0), (95, .iload_n 1, 0, 0)],
  [(96, .ishl, 0, 0), (97, .ior, 0, 0), (98, .putfield 38, 0, 500), (101, .iload_n 2, 0, 0), (102, .ifCond .le 21, 0, 123), (105, .iload 4, 0, 0), (107, .iload_n 2, 0, 0), (108, .if_icmp .ne 15, 0, 123), (111, .aload_n 0, 0, 0)],
  [(112, .dup, 0, 0), (113, .getfield 41, 0, 501), (116, .iconst 1, 1, 0), (117, .iload_n 1, 0, 0), (118, .ishl, 0, 0), (119, .ior, 0, 0), (120, .putfield 41, 0, 501), (123, .aload_n 0, 0, 0), (124, .dup, 0, 0), (125, .getfield 32, 0, 504)],
  [(128, .iload 4, 0, 0), (130, .isub, 0, 0), (131, .putfield 32, 0, 504), (134, .aload_n 0, 0, 0), (135, .dup, 0, 0), (136, .getfield 35, 0, 505), (139, .iconst 1, 1, 0), (140, .iadd, 0, 0), (141, .putfield 35, 0, 505)],
  [(144, .return_, 0, 0)]]
def qp_k60 : List (List (Nat × Instr × Int32 × Nat)) := [
  [(0, .iload_n 2, 0, 0), (1, .tableswitch 108 0 5 #[39, 51, 63, 72, 84, 96], 0, 39)],
  [],
  [(40, .aload_n 0, 0, 0), (41, .getfield 36, 0, 4), (44, .getfield 134, 0, 400), (47, .iload_n 1, 0, 0)],
  [(48, .invokevirtual 162, 0, 470), (51, .ireturn, 0, 0), (52, .aload_n 0, 0, 0), (53, .getfield 36, 0, 4), (56, .getfield 134, 0, 400), (59, .iload_n 1, 0, 0), (60, .invokevirtual 319, 0, 480), (63, .ireturn, 0, 0)],
  [(64, .aload_n 0, 0, 0), (65, .getfield 36, 0, 4), (68, .iload_n 1, 0, 0), (69, .invokevirtual 187, 0, 610), (72, .ireturn, 0, 0), (73, .aload_n 0, 0, 0), (74, .getfield 36, 0, 4), (77, .getfield 172, 0, 401)],
  [(80, .iload_n 1, 0, 0), (81, .invokevirtual 181, 0, 630), (84, .ireturn, 0, 0), (85, .aload_n 0, 0, 0), (86, .getfield 36, 0, 4), (89, .getfield 172, 0, 401), (92, .iload_n 1, 0, 0), (93, .invokevirtual 184, 0, 640)],
  [(96, .ireturn, 0, 0), (97, .aload_n 0, 0, 0), (98, .getfield 36, 0, 4), (101, .getfield 172, 0, 401), (104, .iload_n 1, 0, 0), (105, .invokevirtual 322, 0, 650), (108, .ireturn, 0, 0), (109, .aload_n 0, 0, 0), (110, .getfield 36, 0, 4)],
  [(113, .iload_n 1, 0, 0), (114, .invokevirtual 325, 0, 660), (117, .ireturn, 0, 0)]]
def qp_k61 : List (List (Nat × Instr × Int32 × Nat)) := [
  [(0, .aload_n 0, 0, 0), (1, .getfield 44, 0, 402), (4, .aload_n 0, 0, 0), (5, .getfield 12, 0, 400), (8, .getfield 34, 0, 300), (11, .iload_n 1, 0, 0), (12, .invokestatic 61, 0, 621), (15, .ireturn, 0, 0)]]
def qp_k62 : List (List (Nat × Instr × Int32 × Nat)) := [
  [(0, .iconst 0, 0, 0), (1, .istore_n 3, 0, 0), (2, .iload_n 3, 0, 0), (3, .iload_n 1, 0, 0), (4, .if_icmp .ge 18, 0, 22), (7, .iload_n 0, 0, 0), (8, .iload_n 3, 0, 0), (9, .invokestatic 13, 0, 561), (12, .iload_n 2, 0, 0), (13, .if_icmp .eq 9, 0, 22)],
  [(16, .iinc 3 1, 1, 0), (19, .goto (-17), 0, 2), (22, .iload_n 3, 0, 0), (23, .ireturn, 0, 0)]]
def qp_k63 : List (List (Nat × Instr × Int32 × Nat)) := [
  [(0, .iload_n 1, 0, 0), (1, .ifCond .lt 21, 0, 22), (4, .iload_n 1, 0, 0), (5, .aload_n 0, 0, 0), (6, .getfield 9, 0, 506), (9, .arraylength, 0, 0), (10, .if_icmp .ge 12, 0, 22), (13, .aload_n 0, 0, 0), (14, .getfield 9, 0, 506)],
  [(17, .iload_n 1, 0, 0), (18, .iaload, 0, 0), (19, .goto 4, 0, 23), (22, .iconst 0, 0, 0), (23, .ireturn, 0, 0)]]
def qp_k64 : List (List (Nat × Instr × Int32 × Nat)) := [
  [(0, .iload_n 1, 0, 0), (1, .ifCond .lt 21, 0, 22), (4, .iload_n 1, 0, 0), (5, .aload_n 0, 0, 0), (6, .getfield 15, 0, 507), (9, .arraylength, 0, 0), (10, .if_icmp .ge 12, 0, 22), (13, .aload_n 0, 0, 0), (14, .getfield 15, 0, 507)],
  [(17, .iload_n 1, 0, 0), (18, .iaload, 0, 0), (19, .goto 4, 0, 23), (22, .iconst 0, 0, 0), (23, .ireturn, 0, 0)]]
def qp_k65 : List (List (Nat × Instr × Int32 × Nat)) := [
  [(0, .iload_n 1, 0, 0), (1, .ifCond .lt 21, 0, 22), (4, .iload_n 1, 0, 0), (5, .aload_n 0, 0, 0), (6, .getfield 18, 0, 508), (9, .arraylength, 0, 0), (10, .if_icmp .ge 12, 0, 22), (13, .aload_n 0, 0, 0), (14, .getfield 18, 0, 508)],
  [(17, .iload_n 1, 0, 0), (18, .iaload, 0, 0), (19, .goto 4, 0, 23), (22, .iconst 0, 0, 0), (23, .ireturn, 0, 0)]]
def qp_k66 : List (List (Nat × Instr × Int32 × Nat)) := [
  [(0, .iconst 0, 0, 0), (1, .istore_n 2, 0, 0), (2, .iconst 0, 0, 0), (3, .istore_n 3, 0, 0), (4, .iload_n 3, 0, 0), (5, .aload_n 0, 0, 0), (6, .getfield 12, 0, 400), (9, .getfield 34, 0, 300), (12, .if_icmp .ge 34, 0, 46), (15, .aload_n 0, 0, 0)],
  [(16, .getfield 44, 0, 402), (19, .aload_n 0, 0, 0), (20, .getfield 12, 0, 400), (23, .getfield 34, 0, 300), (26, .iload_n 1, 0, 0), (27, .iload_n 3, 0, 0), (28, .invokestatic 83, 0, 671), (31, .ifCond .eq 9, 0, 40)],
  [(34, .iload_n 2, 0, 0), (35, .iconst 1, 1, 0), (36, .iload_n 3, 0, 0), (37, .ishl, 0, 0), (38, .ior, 0, 0), (39, .istore_n 2, 0, 0), (40, .iinc 3 1, 1, 0), (43, .goto (-39), 0, 4), (46, .iload_n 2, 0, 0), (47, .ireturn, 0, 0)]]
def qp_k67 : List (List (Nat × Instr × Int32 × Nat)) := [
  [(0, .iload_n 0, 0, 0), (1, .iload_n 1, 0, 0), (2, .iload_n 2, 0, 0), (3, .invokestatic 17, 0, 621), (6, .iload_n 0, 0, 0), (7, .iload_n 1, 0, 0), (8, .iload_n 3, 0, 0), (9, .invokestatic 17, 0, 621), (12, .isub, 0, 0), (13, .invokestatic 26, 0, 681)],
  [(16, .iconst 1, 1, 0), (17, .if_icmp .ne 7, 0, 24), (20, .iconst 1, 1, 0), (21, .goto 4, 0, 25), (24, .iconst 0, 0, 0), (25, .ireturn, 0, 0)]]
def qp_k68 : List (List (Nat × Instr × Int32 × Nat)) := [
  [(0, .iload_n 0, 0, 0), (1, .ifCond .ge 8, 0, 9), (4, .iload_n 0, 0, 0), (5, .ineg, 0, 0), (6, .goto 4, 0, 10), (9, .iload_n 0, 0, 0), (10, .ireturn, 0, 0)]]
def qp_k69 : List (List (Nat × Instr × Int32 × Nat)) := [
  [(0, .aload_n 0, 0, 0), (1, .getfield 36, 0, 4), (4, .getfield 134, 0, 400), (7, .iload_n 1, 0, 0), (8, .invokevirtual 152, 0, 530), (11, .ifCond .eq 12, 0, 23), (14, .iload_n 2, 0, 0), (15, .ifCond .le 8, 0, 23)],
  [(18, .iload_n 2, 0, 0), (19, .iconst 5, 5, 0), (20, .if_icmp .le 5, 0, 25), (23, .iconst (-1), (-1), 0), (24, .ireturn, 0, 0), (25, .aload_n 0, 0, 0), (26, .getfield 36, 0, 4), (29, .getfield 134, 0, 400)],
  [(32, .iload_n 1, 0, 0), (33, .invokevirtual 162, 0, 470), (36, .iload_n 2, 0, 0), (37, .invokestatic 165, 0, 571), (40, .ifCond .ne 9, 0, 49), (43, .aload_n 0, 0, 0), (44, .iconst 3, 3, 0), (45, .invokevirtual 110, 0, 140)],
  [(48, .ireturn, 0, 0), (49, .aload_n 0, 0, 0), (50, .getfield 36, 0, 4), (53, .aload_n 0, 0, 0), (54, .getfield 36, 0, 4), (57, .getfield 153, 0, 402), (60, .invokevirtual 156, 0, 540), (63, .iload_n 2, 0, 0)],
  [(64, .tableswitch 77 1 4 #[32, 77, 41, 53], 0, 32)],
  [],
  [(96, .aload_n 0, 0, 0), (97, .getfield 36, 0, 4), (100, .iload_n 1, 0, 0), (101, .invokevirtual 169, 0, 700), (104, .ireturn, 0, 0), (105, .aload_n 0, 0, 0), (106, .getfield 36, 0, 4), (109, .getfield 172, 0, 401)],
  [(112, .iload_n 1, 0, 0), (113, .invokevirtual 176, 0, 710), (116, .ireturn, 0, 0), (117, .aload_n 0, 0, 0), (118, .getfield 36, 0, 4), (121, .getfield 172, 0, 401), (124, .iload_n 1, 0, 0), (125, .invokevirtual 181, 0, 630)],
  [(128, .aload_n 0, 0, 0), (129, .getfield 36, 0, 4), (132, .getfield 172, 0, 401), (135, .iload_n 1, 0, 0), (136, .invokevirtual 184, 0, 640), (139, .isub, 0, 0), (140, .ireturn, 0, 0), (141, .aload_n 0, 0, 0), (142, .getfield 36, 0, 4)],
  [(145, .getfield 134, 0, 400), (148, .getfield 148, 0, 300), (151, .iconst 1, 1, 0), (152, .isub, 0, 0), (153, .aload_n 0, 0, 0), (154, .getfield 36, 0, 4), (157, .iload_n 1, 0, 0), (158, .invokevirtual 187, 0, 610)],
  [(161, .isub, 0, 0), (162, .ireturn, 0, 0)]]
def qp_k70 : List (List (Nat × Instr × Int32 × Nat)) := [
  [(0, .iconst 0, 0, 0), (1, .istore_n 2, 0, 0), (2, .iconst 0, 0, 0), (3, .istore_n 3, 0, 0), (4, .iload_n 3, 0, 0), (5, .aload_n 0, 0, 0), (6, .iload_n 1, 0, 0), (7, .invokevirtual 74, 0, 610), (10, .if_icmp .ge 38, 0, 48), (13, .aload_n 0, 0, 0), (14, .getfield 23, 0, 401)],
  [(17, .aload_n 0, 0, 0), (18, .getfield 44, 0, 402), (21, .iload_n 3, 0, 0), (22, .invokestatic 76, 0, 561), (25, .invokevirtual 80, 0, 650), (28, .aload_n 0, 0, 0), (29, .getfield 23, 0, 401)],
  [(32, .iload_n 1, 0, 0), (33, .invokevirtual 80, 0, 650), (36, .if_icmp .le 6, 0, 42), (39, .iinc 2 1, 1, 0), (42, .iinc 3 1, 1, 0), (45, .goto (-41), 0, 4)],
  [(48, .iload_n 2, 0, 0), (49, .ireturn, 0, 0)]]
def qp_k71 : List (List (Nat × Instr × Int32 × Nat)) := [
  [(0, .iload_n 1, 0, 0), (1, .ifCond .lt 21, 0, 22), (4, .iload_n 1, 0, 0), (5, .aload_n 0, 0, 0), (6, .getfield 21, 0, 509), (9, .arraylength, 0, 0), (10, .if_icmp .ge 12, 0, 22), (13, .aload_n 0, 0, 0), (14, .getfield 21, 0, 509)],
  [(17, .iload_n 1, 0, 0), (18, .iaload, 0, 0), (19, .goto 4, 0, 23), (22, .iconst 0, 0, 0), (23, .ireturn, 0, 0)]]
def qp_k72 : List (List (Nat × Instr × Int32 × Nat)) := [
  [(0, .aload_n 0, 0, 0), (1, .getfield 36, 0, 4), (4, .getfield 134, 0, 400), (7, .iload_n 1, 0, 0), (8, .invokevirtual 152, 0, 530), (11, .ifCond .eq 17, 0, 28), (14, .aload_n 0, 0, 0), (15, .getfield 36, 0, 4)],
  [(18, .getfield 134, 0, 400), (21, .iload_n 2, 0, 0), (22, .invokevirtual 152, 0, 530), (25, .ifCond .ne 5, 0, 30), (28, .iconst (-1), (-1), 0), (29, .ireturn, 0, 0), (30, .aload_n 0, 0, 0), (31, .getfield 36, 0, 4)],
  [(34, .getfield 190, 0, 404), (37, .istore_n 3, 0, 0), (38, .aload_n 0, 0, 0), (39, .getfield 36, 0, 4), (42, .bipush 8, 8, 0), (44, .iload_n 1, 0, 0), (45, .imul, 0, 0), (46, .iload_n 2, 0, 0), (47, .iadd, 0, 0)],
  [(48, .invokevirtual 193, 0, 730), (51, .ifCond .ne 6, 0, 57), (54, .bipush (-4), (-4), 0), (56, .ireturn, 0, 0), (57, .aload_n 0, 0, 0), (58, .getfield 36, 0, 4), (61, .getfield 196, 0, 405)],
  [(64, .bipush 40, 40, 0), (66, .if_icmp .lt 6, 0, 72), (69, .bipush (-2), (-2), 0), (71, .ireturn, 0, 0), (72, .aload_n 0, 0, 0), (73, .getfield 36, 0, 4), (76, .iconst 1, 1, 0), (77, .bipush 8, 8, 0), (79, .iload_n 1, 0, 0)],
  [(80, .imul, 0, 0), (81, .iload_n 2, 0, 0), (82, .iadd, 0, 0), (83, .invokevirtual 199, 0, 740), (86, .iload_n 3, 0, 0), (87, .ireturn, 0, 0)]]
def qp_k73 : List (List (Nat × Instr × Int32 × Nat)) := [
  [(0, .aload_n 0, 0, 0), (1, .getfield 51, 0, 404), (4, .bipush 12, 12, 0), (6, .if_icmp .ge 22, 0, 28), (9, .aload_n 0, 0, 0), (10, .iload_n 1, 0, 0), (11, .bipush 8, 8, 0), (13, .idiv, 0, 0), (14, .invokevirtual 74, 0, 610)],
  [(17, .iload_n 1, 0, 0), (18, .bipush 8, 8, 0), (20, .irem, 0, 0), (21, .if_icmp .eq 7, 0, 28), (24, .iconst 1, 1, 0), (25, .goto 4, 0, 29), (28, .iconst 0, 0, 0), (29, .ireturn, 0, 0)]]
def qp_k74 : List (List (Nat × Instr × Int32 × Nat)) := [
  [(0, .iload_n 1, 0, 0), (1, .tableswitch 53 1 3 #[27, 35, 45], 0, 27)],
  [(28, .aload_n 0, 0, 0), (29, .iload_n 2, 0, 0), (30, .invokevirtual 87, 0, 750)],
  [(33, .goto 21, 0, 54), (36, .aload_n 0, 0, 0), (37, .iload_n 2, 0, 0), (38, .iconst 1, 1, 0), (39, .invokevirtual 90, 0, 790), (42, .pop, 0, 0), (43, .goto 11, 0, 54), (46, .aload_n 0, 0, 0), (47, .iload_n 2, 0, 0)],
  [(48, .putfield 50, 0, 403), (51, .goto 3, 0, 54), (54, .aload_n 0, 0, 0), (55, .getfield 54, 0, 405), (58, .ifCond .lt 40, 0, 98), (61, .aload_n 0, 0, 0), (62, .getfield 54, 0, 405)],
  [(65, .aload_n 0, 0, 0), (66, .getfield 31, 0, 407), (69, .arraylength, 0, 0), (70, .if_icmp .ge 28, 0, 98), (73, .aload_n 0, 0, 0), (74, .getfield 31, 0, 407), (77, .aload_n 0, 0, 0), (78, .getfield 54, 0, 405)],
  [(81, .bipush 64, 64, 0), (83, .iload_n 1, 0, 0), (84, .imul, 0, 0), (85, .iload_n 2, 0, 0), (86, .iadd, 0, 0), (87, .iastore, 0, 0), (88, .aload_n 0, 0, 0), (89, .dup, 0, 0), (90, .getfield 54, 0, 405), (93, .iconst 1, 1, 0), (94, .iadd, 0, 0), (95, .putfield 54, 0, 405)],
  [(98, .return_, 0, 0)]]
def qp_k75 : List (List (Nat × Instr × Int32 × Nat)) := [
  [(0, .aload_n 0, 0, 0), (1, .getfield 51, 0, 404), (4, .ifCond .lt 54, 0, 58), (7, .aload_n 0, 0, 0), (8, .getfield 51, 0, 404), (11, .aload_n 0, 0, 0), (12, .getfield 27, 0, 406), (15, .arraylength, 0, 0)],
  [(16, .if_icmp .ge 42, 0, 58), (19, .aload_n 0, 0, 0), (20, .getfield 27, 0, 406), (23, .aload_n 0, 0, 0), (24, .getfield 51, 0, 404), (27, .iload_n 1, 0, 0), (28, .iastore, 0, 0), (29, .aload_n 0, 0, 0), (30, .dup, 0, 0), (31, .getfield 51, 0, 404)],
  [(34, .iconst 1, 1, 0), (35, .iadd, 0, 0), (36, .putfield 51, 0, 404), (39, .aload_n 0, 0, 0), (40, .aload_n 0, 0, 0), (41, .getfield 44, 0, 402), (44, .aload_n 0, 0, 0), (45, .getfield 12, 0, 400)],
  [(48, .getfield 34, 0, 300), (51, .iload_n 1, 0, 0), (52, .invokestatic 65, 0, 761), (55, .putfield 44, 0, 402), (58, .return_, 0, 0)]]
def qp_k76 : List (List (Nat × Instr × Int32 × Nat)) := [
  [(0, .iload_n 2, 0, 0), (1, .bipush 8, 8, 0), (3, .idiv, 0, 0), (4, .istore_n 3, 0, 0), (5, .iload_n 2, 0, 0), (6, .bipush 8, 8, 0), (8, .irem, 0, 0), (9, .istore 4, 0, 0), (11, .iload_n 0, 0, 0), (12, .iload_n 1, 0, 0), (13, .iload_n 3, 0, 0), (14, .invokestatic 17, 0, 621)],
  [(17, .istore 5, 0, 0), (19, .iload 5, 0, 0), (21, .iload_n 1, 0, 0), (22, .if_icmp .ge 9, 0, 31), (25, .iload 4, 0, 0), (27, .iload_n 1, 0, 0), (28, .if_icmp .lt 5, 0, 33), (31, .iload_n 0, 0, 0)],
  [(32, .ireturn, 0, 0), (33, .iload_n 0, 0, 0), (34, .iload 5, 0, 0), (36, .invokestatic 20, 0, 771), (39, .iload_n 0, 0, 0), (40, .iload 5, 0, 0), (42, .iconst 1, 1, 0), (43, .iadd, 0, 0), (44, .invokestatic 23, 0, 781), (47, .iconst 3, 3, 0)],
  [(48, .iload 5, 0, 0), (50, .imul, 0, 0), (51, .ishl, 0, 0), (52, .ior, 0, 0), (53, .istore 6, 0, 0), (55, .iload 6, 0, 0), (57, .iload 4, 0, 0), (59, .invokestatic 20, 0, 771), (62, .iload_n 3, 0, 0), (63, .iconst 3, 3, 0)],
  [(64, .iload 4, 0, 0), (66, .imul, 0, 0), (67, .ishl, 0, 0), (68, .ior, 0, 0), (69, .iload 6, 0, 0), (71, .iload 4, 0, 0), (73, .invokestatic 23, 0, 781), (76, .iconst 3, 3, 0), (77, .iload 4, 0, 0), (79, .iconst 1, 1, 0)],
  [(80, .iadd, 0, 0), (81, .imul, 0, 0), (82, .ishl, 0, 0), (83, .ior, 0, 0), (84, .ireturn, 0, 0)]]
def qp_k77 : List (List (Nat × Instr × Int32 × Nat)) := [
  [(0, .iload_n 0, 0, 0), (1, .iconst 1, 1, 0), (2, .iconst 3, 3, 0), (3, .iload_n 1, 0, 0), (4, .imul, 0, 0), (5, .ishl, 0, 0), (6, .iconst 1, 1, 0), (7, .isub, 0, 0), (8, .iand, 0, 0), (9, .ireturn, 0, 0)]]
def qp_k78 : List (List (Nat × Instr × Int32 × Nat)) := [
  [(0, .iload_n 0, 0, 0), (1, .iconst 3, 3, 0), (2, .iload_n 1, 0, 0), (3, .imul, 0, 0), (4, .ishr, 0, 0), (5, .ireturn, 0, 0)]]
def qp_k79 : List (List (Nat × Instr × Int32 × Nat)) := [
  [(0, .aload_n 0, 0, 0), (1, .getfield 12, 0, 400), (4, .getfield 34, 0, 300), (7, .invokestatic 38, 0, 501), (10, .istore_n 3, 0, 0), (11, .iconst 0, 0, 0), (12, .istore 4, 0, 0), (14, .iconst 0, 0, 0), (15, .istore 5, 0, 0)],
  [(17, .iconst 0, 0, 0), (18, .istore 6, 0, 0), (20, .iload 6, 0, 0), (22, .aload_n 0, 0, 0), (23, .getfield 51, 0, 404), (26, .if_icmp .ge 122, 0, 148), (29, .iload 6, 0, 0), (31, .aload_n 0, 0, 0)],
  [(32, .getfield 27, 0, 406), (35, .arraylength, 0, 0), (36, .if_icmp .ge 112, 0, 148), (39, .aload_n 0, 0, 0), (40, .getfield 27, 0, 406), (43, .iload 6, 0, 0), (45, .iaload, 0, 0), (46, .istore 7, 0, 0)],
  [(48, .iload_n 3, 0, 0), (49, .aload_n 0, 0, 0), (50, .getfield 12, 0, 400), (53, .getfield 34, 0, 300), (56, .iload 7, 0, 0), (58, .bipush 8, 8, 0), (60, .idiv, 0, 0), (61, .invokestatic 61, 0, 621)],
  [(64, .iload 7, 0, 0), (66, .bipush 8, 8, 0), (68, .irem, 0, 0), (69, .if_icmp .ne 7, 0, 76), (72, .iconst 1, 1, 0), (73, .goto 4, 0, 77), (76, .iconst 0, 0, 0), (77, .istore 8, 0, 0), (79, .iload 6, 0, 0)],
  [(81, .iload_n 1, 0, 0), (82, .if_icmp .le 14, 0, 96), (85, .iload 8, 0, 0), (87, .ifCond .eq 9, 0, 96), (90, .iinc 5 1, 1, 0), (93, .goto 49, 0, 142)],
  [(96, .iload 6, 0, 0), (98, .iload_n 1, 0, 0), (99, .if_icmp .eq 43, 0, 142), (102, .iload_n 3, 0, 0), (103, .aload_n 0, 0, 0), (104, .getfield 12, 0, 400), (107, .getfield 34, 0, 300), (110, .iload 7, 0, 0)],
  [(112, .invokestatic 65, 0, 761), (115, .istore_n 3, 0, 0), (116, .iload_n 2, 0, 0), (117, .ifCond .eq 22, 0, 139), (120, .iload 4, 0, 0), (122, .aload_n 0, 0, 0), (123, .getfield 27, 0, 406), (126, .arraylength, 0, 0), (127, .if_icmp .ge 12, 0, 139)],
  [(130, .aload_n 0, 0, 0), (131, .getfield 27, 0, 406), (134, .iload 4, 0, 0), (136, .iload 7, 0, 0), (138, .iastore, 0, 0), (139, .iinc 4 1, 1, 0), (142, .iinc 6 1, 1, 0)],
  [(145, .goto (-125), 0, 20), (148, .iload_n 2, 0, 0), (149, .ifCond .eq 14, 0, 163), (152, .aload_n 0, 0, 0), (153, .iload_n 3, 0, 0), (154, .putfield 44, 0, 402), (157, .aload_n 0, 0, 0), (158, .iload 4, 0, 0)],
  [(160, .putfield 51, 0, 404), (163, .iload 5, 0, 0), (165, .ireturn, 0, 0)]]
def qp_k80 : List (List (Nat × Instr × Int32 × Nat)) := [
  [(0, .aload_n 0, 0, 0), (1, .getfield 36, 0, 4), (4, .iload_n 1, 0, 0), (5, .invokevirtual 202, 0, 810), (8, .ifCond .ne 5, 0, 13), (11, .iconst (-1), (-1), 0), (12, .ireturn, 0, 0), (13, .aload_n 0, 0, 0), (14, .getfield 36, 0, 4)],
  [(17, .getfield 196, 0, 405), (20, .bipush 40, 40, 0), (22, .if_icmp .lt 6, 0, 28), (25, .bipush (-2), (-2), 0), (27, .ireturn, 0, 0), (28, .aload_n 0, 0, 0), (29, .getfield 36, 0, 4)],
  [(32, .iload_n 1, 0, 0), (33, .iconst 0, 0, 0), (34, .invokevirtual 205, 0, 790), (37, .istore_n 2, 0, 0), (38, .aload_n 0, 0, 0), (39, .getfield 36, 0, 4), (42, .iconst 2, 2, 0), (43, .iload_n 1, 0, 0), (44, .invokevirtual 199, 0, 740), (47, .iload_n 2, 0, 0)],
  [(48, .ireturn, 0, 0)]]
def qp_k81 : List (List (Nat × Instr × Int32 × Nat)) := [
  [(0, .iload_n 1, 0, 0), (1, .ifCond .lt 15, 0, 16), (4, .iload_n 1, 0, 0), (5, .aload_n 0, 0, 0), (6, .getfield 51, 0, 404), (9, .if_icmp .ge 7, 0, 16), (12, .iconst 1, 1, 0), (13, .goto 4, 0, 17)],
  [(16, .iconst 0, 0, 0), (17, .ireturn, 0, 0)]]
def qp_k82 : List (List (Nat × Instr × Int32 × Nat)) := [
  [(0, .iload_n 1, 0, 0), (1, .ifCond .lt 9, 0, 10), (4, .iload_n 1, 0, 0), (5, .bipush 20, 20, 0), (7, .if_icmp .le 5, 0, 12), (10, .iconst (-1), (-1), 0), (11, .ireturn, 0, 0), (12, .aload_n 0, 0, 0), (13, .getfield 36, 0, 4)],
  [(16, .getfield 209, 0, 403), (19, .istore_n 2, 0, 0), (20, .aload_n 0, 0, 0), (21, .getfield 36, 0, 4), (24, .getfield 134, 0, 400), (27, .getfield 148, 0, 300), (30, .ifCond .eq 8, 0, 38)],
  [(33, .iload_n 2, 0, 0), (34, .iload_n 1, 0, 0), (35, .if_icmp .ne 6, 0, 41), (38, .bipush (-4), (-4), 0), (40, .ireturn, 0, 0), (41, .aload_n 0, 0, 0), (42, .getfield 36, 0, 4), (45, .getfield 196, 0, 405)],
  [(48, .bipush 40, 40, 0), (50, .if_icmp .lt 6, 0, 56), (53, .bipush (-2), (-2), 0), (55, .ireturn, 0, 0), (56, .aload_n 0, 0, 0), (57, .getfield 36, 0, 4), (60, .iconst 3, 3, 0), (61, .iload_n 1, 0, 0), (62, .invokevirtual 199, 0, 740)],
  [(65, .iload_n 2, 0, 0), (66, .ireturn, 0, 0)]]
def qp_k83 : List (List (Nat × Instr × Int32 × Nat)) := [
  [(0, .iload_n 1, 0, 0), (1, .ifCond .lt 14, 0, 15), (4, .iload_n 1, 0, 0), (5, .aload_n 0, 0, 0), (6, .getfield 36, 0, 4), (9, .getfield 196, 0, 405), (12, .if_icmp .le 5, 0, 17), (15, .iconst (-1), (-1), 0)],
  [(16, .ireturn, 0, 0), (17, .aload_n 0, 0, 0), (18, .getfield 36, 0, 4), (21, .getfield 196, 0, 405), (24, .iload_n 1, 0, 0), (25, .isub, 0, 0), (26, .istore_n 2, 0, 0), (27, .aload_n 0, 0, 0), (28, .getfield 36, 0, 4), (31, .iload_n 1, 0, 0)],
  [(32, .invokevirtual 212, 0, 840), (35, .iload_n 2, 0, 0), (36, .ireturn, 0, 0)]]
def qp_k84 : List (List (Nat × Instr × Int32 × Nat)) := [
  [(0, .aload_n 0, 0, 0), (1, .invokevirtual 94, 0, 490), (4, .iconst 0, 0, 0), (5, .istore_n 2, 0, 0), (6, .iload_n 2, 0, 0), (7, .iload_n 1, 0, 0), (8, .if_icmp .ge 40, 0, 48), (11, .iload_n 2, 0, 0), (12, .aload_n 0, 0, 0), (13, .getfield 31, 0, 407)],
  [(16, .arraylength, 0, 0), (17, .if_icmp .ge 31, 0, 48), (20, .aload_n 0, 0, 0), (21, .aload_n 0, 0, 0), (22, .getfield 31, 0, 407), (25, .iload_n 2, 0, 0), (26, .iaload, 0, 0), (27, .bipush 64, 64, 0), (29, .idiv, 0, 0), (30, .aload_n 0, 0, 0), (31, .getfield 31, 0, 407)],
  [(34, .iload_n 2, 0, 0), (35, .iaload, 0, 0), (36, .bipush 64, 64, 0), (38, .irem, 0, 0), (39, .invokevirtual 97, 0, 740), (42, .iinc 2 1, 1, 0), (45, .goto (-39), 0, 6)],
  [(48, .return_, 0, 0)]]
def qp_k85 : List (List (Nat × Instr × Int32 × Nat)) := [
  [(0, .aload_n 0, 0, 0), (1, .getfield 21, 0, 2), (4, .iload_n 1, 0, 0), (5, .invokevirtual 106, 0, 130), (8, .ifCond .ne 5, 0, 13), (11, .iconst (-1), (-1), 0), (12, .ireturn, 0, 0), (13, .aload_n 0, 0, 0), (14, .getfield 36, 0, 4)],
  [(17, .getfield 134, 0, 400), (20, .getfield 148, 0, 300), (23, .ifCond .ne 6, 0, 29), (26, .bipush (-4), (-4), 0), (28, .ireturn, 0, 0), (29, .aload_n 0, 0, 0), (30, .getfield 21, 0, 2)],
  [(33, .iload_n 1, 0, 0), (34, .aload_n 0, 0, 0), (35, .getfield 36, 0, 4), (38, .getfield 196, 0, 405), (41, .iconst 0, 0, 0), (42, .invokevirtual 215, 0, 150), (45, .iconst 0, 0, 0), (46, .istore_n 2, 0, 0), (47, .iload_n 2, 0, 0)],
  [(48, .aload_n 0, 0, 0), (49, .getfield 36, 0, 4), (52, .getfield 196, 0, 405), (55, .if_icmp .ge 26, 0, 81), (58, .aload_n 0, 0, 0), (59, .getfield 21, 0, 2), (62, .iload_n 1, 0, 0), (63, .iload_n 2, 0, 0)],
  [(64, .aload_n 0, 0, 0), (65, .getfield 36, 0, 4), (68, .iload_n 2, 0, 0), (69, .invokevirtual 218, 0, 860), (72, .invokevirtual 90, 0, 160), (75, .iinc 2 1, 1, 0), (78, .goto (-31), 0, 47)],
  [(81, .aload_n 0, 0, 0), (82, .getfield 36, 0, 4), (85, .getfield 196, 0, 405), (88, .ireturn, 0, 0)]]
def qp_k86 : List (List (Nat × Instr × Int32 × Nat)) := [
  [(0, .iload_n 1, 0, 0), (1, .ifCond .lt 21, 0, 22), (4, .iload_n 1, 0, 0), (5, .aload_n 0, 0, 0), (6, .getfield 31, 0, 407), (9, .arraylength, 0, 0), (10, .if_icmp .ge 12, 0, 22), (13, .aload_n 0, 0, 0), (14, .getfield 31, 0, 407)],
  [(17, .iload_n 1, 0, 0), (18, .iaload, 0, 0), (19, .goto 4, 0, 23), (22, .iconst 0, 0, 0), (23, .ireturn, 0, 0)]]
def qp_k87 : List (List (Nat × Instr × Int32 × Nat)) := [
  [(0, .aload_n 0, 0, 0), (1, .aload_n 0, 0, 0), (2, .getfield 21, 0, 2), (5, .iload_n 1, 0, 0), (6, .invokevirtual 98, 0, 200), (9, .istore_n 2, 0, 0), (10, .iload_n 2, 0, 0), (11, .ifCond .eq 5, 0, 16), (14, .iload_n 2, 0, 0), (15, .ireturn, 0, 0)],
  [(16, .aload_n 0, 0, 0), (17, .getfield 36, 0, 4), (20, .invokevirtual 145, 0, 490), (23, .aload_n 0, 0, 0), (24, .getfield 21, 0, 2), (27, .iload_n 1, 0, 0), (28, .invokevirtual 124, 0, 220), (31, .istore_n 3, 0, 0)],
  [(32, .iconst 0, 0, 0), (33, .istore 4, 0, 0), (35, .iload 4, 0, 0), (37, .iload_n 3, 0, 0), (38, .if_icmp .ge 42, 0, 80), (41, .aload_n 0, 0, 0), (42, .getfield 36, 0, 4), (45, .aload_n 0, 0, 0), (46, .getfield 21, 0, 2)],
  [(49, .iload_n 1, 0, 0), (50, .iload 4, 0, 0), (52, .invokevirtual 86, 0, 230), (55, .bipush 64, 64, 0), (57, .idiv, 0, 0), (58, .aload_n 0, 0, 0), (59, .getfield 21, 0, 2), (62, .iload_n 1, 0, 0), (63, .iload 4, 0, 0)],
  [(65, .invokevirtual 86, 0, 230), (68, .bipush 64, 64, 0), (70, .irem, 0, 0), (71, .invokevirtual 199, 0, 740), (74, .iinc 4 1, 1, 0), (77, .goto (-42), 0, 35)],
  [(80, .iload_n 3, 0, 0), (81, .ireturn, 0, 0)]]
def qp_k88 : List (List (Nat × Instr × Int32 × Nat)) := [
  [(0, .aload_n 0, 0, 0), (1, .getfield 36, 0, 4), (4, .getfield 134, 0, 400), (7, .iload_n 1, 0, 0), (8, .invokevirtual 152, 0, 530), (11, .ifCond .eq 17, 0, 28), (14, .aload_n 0, 0, 0), (15, .getfield 36, 0, 4)],
  [(18, .getfield 153, 0, 402), (21, .iload_n 1, 0, 0), (22, .invokestatic 221, 0, 561), (25, .goto 4, 0, 29), (28, .iconst (-1), (-1), 0), (29, .ireturn, 0, 0)]]
def qp_k89 : List (List (Nat × Instr × Int32 × Nat)) := [
  [(0, .aload_n 0, 0, 0), (1, .getfield 36, 0, 4), (4, .iload_n 1, 0, 0), (5, .invokevirtual 202, 0, 810), (8, .ifCond .eq 12, 0, 20), (11, .iload_n 2, 0, 0), (12, .ifCond .lt 8, 0, 20), (15, .iload_n 2, 0, 0)],
  [(16, .iconst 1, 1, 0), (17, .if_icmp .le 5, 0, 22), (20, .iconst (-1), (-1), 0), (21, .ireturn, 0, 0), (22, .iload_n 2, 0, 0), (23, .ifCond .ne 17, 0, 40), (26, .aload_n 0, 0, 0), (27, .getfield 36, 0, 4), (30, .iload_n 1, 0, 0), (31, .invokevirtual 226, 0, 900)],
  [(34, .bipush 8, 8, 0), (36, .idiv, 0, 0), (37, .goto 14, 0, 51), (40, .aload_n 0, 0, 0), (41, .getfield 36, 0, 4), (44, .iload_n 1, 0, 0), (45, .invokevirtual 226, 0, 900)],
  [(48, .bipush 8, 8, 0), (50, .irem, 0, 0), (51, .ireturn, 0, 0)]]
def qp_k90 : List (List (Nat × Instr × Int32 × Nat)) := [
  [(0, .iload_n 1, 0, 0), (1, .ifCond .lt 21, 0, 22), (4, .iload_n 1, 0, 0), (5, .aload_n 0, 0, 0), (6, .getfield 27, 0, 406), (9, .arraylength, 0, 0), (10, .if_icmp .ge 12, 0, 22), (13, .aload_n 0, 0, 0), (14, .getfield 27, 0, 406)],
  [(17, .iload_n 1, 0, 0), (18, .iaload, 0, 0), (19, .goto 4, 0, 23), (22, .iconst 0, 0, 0), (23, .ireturn, 0, 0)]]
def qp_k91 : List (List (Nat × Instr × Int32 × Nat)) := [
  [(0, .aload_n 0, 0, 0), (1, .getfield 36, 0, 4), (4, .getfield 134, 0, 400), (7, .iload_n 1, 0, 0), (8, .invokevirtual 152, 0, 530), (11, .ifCond .eq 17, 0, 28), (14, .aload_n 0, 0, 0), (15, .getfield 36, 0, 4)],
  [(18, .getfield 134, 0, 400), (21, .iload_n 2, 0, 0), (22, .invokevirtual 152, 0, 530), (25, .ifCond .ne 5, 0, 30), (28, .iconst (-1), (-1), 0), (29, .ireturn, 0, 0), (30, .aload_n 0, 0, 0), (31, .getfield 36, 0, 4)],
  [(34, .getfield 134, 0, 400), (37, .iload_n 1, 0, 0), (38, .invokevirtual 162, 0, 470), (41, .iload_n 2, 0, 0), (42, .aload_n 0, 0, 0), (43, .getfield 36, 0, 4), (46, .getfield 134, 0, 400)],
  [(49, .getfield 148, 0, 300), (52, .iconst 1, 1, 0), (53, .isub, 0, 0), (54, .if_icmp .ne 7, 0, 61), (57, .iconst 1, 1, 0), (58, .goto 4, 0, 62), (61, .iconst 0, 0, 0), (62, .invokestatic 229, 0, 581)],
  [(65, .ireturn, 0, 0)]]
def qp_k92 : List (List (Nat × Instr × Int32 × Nat)) := [
  [(0, .aload_n 0, 0, 0), (1, .getfield 36, 0, 4), (4, .getfield 134, 0, 400), (7, .iload_n 1, 0, 0), (8, .invokevirtual 152, 0, 530), (11, .ifCond .eq 17, 0, 28), (14, .aload_n 0, 0, 0), (15, .getfield 36, 0, 4)],
  [(18, .getfield 134, 0, 400), (21, .iload_n 2, 0, 0), (22, .invokevirtual 152, 0, 530), (25, .ifCond .ne 5, 0, 30), (28, .iconst (-1), (-1), 0), (29, .ireturn, 0, 0), (30, .aload_n 0, 0, 0), (31, .getfield 36, 0, 4)],
  [(34, .iload_n 1, 0, 0), (35, .iload_n 2, 0, 0), (36, .invokevirtual 231, 0, 930), (39, .ireturn, 0, 0)]]
def qp_k93 : List (List (Nat × Instr × Int32 × Nat)) := [
  [(0, .aload_n 0, 0, 0), (1, .aload_n 0, 0, 0), (2, .getfield 44, 0, 402), (5, .aload_n 0, 0, 0), (6, .getfield 12, 0, 400), (9, .getfield 34, 0, 300), (12, .bipush 8, 8, 0), (14, .iload_n 1, 0, 0), (15, .imul, 0, 0)],
  [(16, .iload_n 2, 0, 0), (17, .iadd, 0, 0), (18, .invokestatic 65, 0, 761), (21, .invokevirtual 68, 0, 540), (24, .aload_n 0, 0, 0), (25, .getfield 23, 0, 401), (28, .iload_n 1, 0, 0), (29, .invokevirtual 71, 0, 640)],
  [(32, .ireturn, 0, 0)]]
def qp_k94 : List (List (Nat × Instr × Int32 × Nat)) := [
  [(0, .aload_n 0, 0, 0), (1, .getfield 36, 0, 4), (4, .getfield 134, 0, 400), (7, .iload_n 1, 0, 0), (8, .invokevirtual 152, 0, 530), (11, .ifCond .ne 5, 0, 16), (14, .iconst (-1), (-1), 0), (15, .ireturn, 0, 0)],
  [(16, .iconst 0, 0, 0), (17, .istore_n 2, 0, 0), (18, .aload_n 0, 0, 0), (19, .getfield 36, 0, 4), (22, .iload_n 1, 0, 0), (23, .iconst 0, 0, 0), (24, .invokevirtual 231, 0, 930), (27, .istore_n 3, 0, 0), (28, .iconst 1, 1, 0), (29, .istore 4, 0, 0), (31, .iload 4, 0, 0)],
  [(33, .aload_n 0, 0, 0), (34, .getfield 36, 0, 4), (37, .getfield 134, 0, 400), (40, .getfield 148, 0, 300), (43, .if_icmp .ge 33, 0, 76), (46, .aload_n 0, 0, 0), (47, .getfield 36, 0, 4)],
  [(50, .iload_n 1, 0, 0), (51, .iload 4, 0, 0), (53, .invokevirtual 231, 0, 930), (56, .istore 5, 0, 0), (58, .iload 5, 0, 0), (60, .iload_n 3, 0, 0), (61, .if_icmp .le 9, 0, 70)],
  [(64, .iload 4, 0, 0), (66, .istore_n 2, 0, 0), (67, .iload 5, 0, 0), (69, .istore_n 3, 0, 0), (70, .iinc 4 1, 1, 0), (73, .goto (-42), 0, 31), (76, .aload_n 0, 0, 0), (77, .iload_n 3, 0, 0), (78, .invokevirtual 94, 0, 240)],
  [(81, .pop, 0, 0), (82, .iload_n 2, 0, 0), (83, .ireturn, 0, 0)]]
def qp_k95 : List (List (Nat × Instr × Int32 × Nat)) := [
  [(0, .aload_n 0, 0, 0), (1, .getfield 36, 0, 4), (4, .iload_n 1, 0, 0), (5, .invokevirtual 202, 0, 810), (8, .ifCond .eq 15, 0, 23), (11, .aload_n 0, 0, 0), (12, .getfield 36, 0, 4), (15, .iload_n 1, 0, 0)],
  [(16, .iconst 0, 0, 0), (17, .invokevirtual 205, 0, 790), (20, .goto 4, 0, 24), (23, .iconst (-1), (-1), 0), (24, .ireturn, 0, 0)]]
def qp_k96 : List (List (Nat × Instr × Int32 × Nat)) := [
  [(0, .aload_n 0, 0, 0), (1, .getfield 36, 0, 4), (4, .getfield 134, 0, 400), (7, .astore 5, 0, 0), (9, .aload 5, 0, 0), (11, .iload_n 1, 0, 0), (12, .invokevirtual 152, 0, 530), (15, .ifCond .eq 38, 0, 53)],
  [(18, .aload 5, 0, 0), (20, .iload_n 2, 0, 0), (21, .invokevirtual 152, 0, 530), (24, .ifCond .eq 29, 0, 53), (27, .aload 5, 0, 0), (29, .iload_n 3, 0, 0), (30, .invokevirtual 152, 0, 530)],
  [(33, .ifCond .eq 20, 0, 53), (36, .iload_n 1, 0, 0), (37, .iload_n 2, 0, 0), (38, .if_icmp .eq 15, 0, 53), (41, .aload_n 0, 0, 0), (42, .getfield 14, 0, 0), (45, .iload 4, 0, 0), (47, .invokevirtual 106, 0, 130)],
  [(50, .ifCond .ne 5, 0, 55), (53, .iconst (-1), (-1), 0), (54, .ireturn, 0, 0), (55, .aload_n 0, 0, 0), (56, .getfield 45, 0, 5), (59, .iload_n 1, 0, 0), (60, .iload_n 2, 0, 0), (61, .iload_n 3, 0, 0), (62, .invokevirtual 234, 0, 970)],
  [(65, .istore 6, 0, 0), (67, .iload 6, 0, 0), (69, .bipush (-9), (-9), 0), (71, .if_icmp .ne 6, 0, 77), (74, .bipush (-9), (-9), 0), (76, .ireturn, 0, 0), (77, .aload_n 0, 0, 0), (78, .getfield 14, 0, 0)],
  [(81, .iload 4, 0, 0), (83, .iload 6, 0, 0), (85, .iconst 0, 0, 0), (86, .invokevirtual 215, 0, 150), (89, .iconst 0, 0, 0), (90, .istore 7, 0, 0), (92, .iload 7, 0, 0), (94, .iload 6, 0, 0)],
  [(96, .if_icmp .ge 31, 0, 127), (99, .aload_n 0, 0, 0), (100, .getfield 14, 0, 0), (103, .iload 4, 0, 0), (105, .iload 7, 0, 0), (107, .aload_n 0, 0, 0), (108, .getfield 45, 0, 5), (111, .iload 7, 0, 0)],
  [(113, .iload 6, 0, 0), (115, .invokevirtual 238, 0, 1030), (118, .invokevirtual 90, 0, 160), (121, .iinc 7 1, 1, 0), (124, .goto (-32), 0, 92), (127, .iload 6, 0, 0)],
  [(129, .ireturn, 0, 0)]]
def qp_k97 : List (List (Nat × Instr × Int32 × Nat)) := [
  [(0, .iconst 0, 0, 0), (1, .istore 4, 0, 0), (3, .iload 4, 0, 0), (5, .aload_n 0, 0, 0), (6, .getfield 18, 0, 603), (9, .arraylength, 0, 0), (10, .if_icmp .ge 17, 0, 27), (13, .aload_n 0, 0, 0), (14, .getfield 18, 0, 603)],
  [(17, .iload 4, 0, 0), (19, .iconst 0, 0, 0), (20, .bastore, 0, 0), (21, .iinc 4 1, 1, 0), (24, .goto (-21), 0, 3), (27, .aload_n 0, 0, 0), (28, .iconst 0, 0, 0), (29, .putfield 26, 0, 604)],
  [(32, .aload_n 0, 0, 0), (33, .aload_n 0, 0, 0), (34, .getfield 22, 0, 600), (37, .getfield 30, 0, 402), (40, .iconst 0, 0, 0), (41, .invokevirtual 35, 0, 980), (44, .iconst 0, 0, 0), (45, .istore 4, 0, 0), (47, .iconst 0, 0, 0)],
  [(48, .istore 5, 0, 0), (50, .iload 5, 0, 0), (52, .iconst 3, 3, 0), (53, .if_icmp .gt 124, 0, 177), (56, .aload_n 0, 0, 0), (57, .getfield 26, 0, 604), (60, .istore 6, 0, 0), (62, .iload 4, 0, 0)],
  [(64, .istore 7, 0, 0), (66, .iload 7, 0, 0), (68, .iload 6, 0, 0), (70, .if_icmp .ge 48, 0, 118), (73, .iload 7, 0, 0), (75, .sipush 720, 720, 0), (78, .if_icmp .ge 40, 0, 118)],
  [(81, .aload_n 0, 0, 0), (82, .aload_n 0, 0, 0), (83, .getfield 9, 0, 601), (86, .iload 7, 0, 0), (88, .iaload, 0, 0), (89, .iload_n 1, 0, 0), (90, .iload_n 2, 0, 0), (91, .iload_n 3, 0, 0), (92, .invokevirtual 39, 0, 1010), (95, .ifCond .eq 17, 0, 112)],
  [(98, .aload_n 0, 0, 0), (99, .aload_n 0, 0, 0), (100, .getfield 15, 0, 602), (103, .iload 7, 0, 0), (105, .iaload, 0, 0), (106, .putfield 43, 0, 605), (109, .iload 5, 0, 0), (111, .ireturn, 0, 0)],
  [(112, .iinc 7 1, 1, 0), (115, .goto (-49), 0, 66), (118, .iload 4, 0, 0), (120, .istore 7, 0, 0), (122, .iload 7, 0, 0), (124, .iload 6, 0, 0), (126, .if_icmp .ge 41, 0, 167)],
  [(129, .iload 7, 0, 0), (131, .sipush 720, 720, 0), (134, .if_icmp .ge 33, 0, 167), (137, .iload 5, 0, 0), (139, .iconst 3, 3, 0), (140, .if_icmp .ge 27, 0, 167), (143, .aload_n 0, 0, 0)],
  [(144, .aload_n 0, 0, 0), (145, .getfield 9, 0, 601), (148, .iload 7, 0, 0), (150, .iaload, 0, 0), (151, .aload_n 0, 0, 0), (152, .getfield 15, 0, 602), (155, .iload 7, 0, 0), (157, .iaload, 0, 0), (158, .invokevirtual 46, 0, 1020)],
  [(161, .iinc 7 1, 1, 0), (164, .goto (-42), 0, 122), (167, .iload 6, 0, 0), (169, .istore 4, 0, 0), (171, .iinc 5 1, 1, 0), (174, .goto (-124), 0, 50)],
  [(177, .bipush (-9), (-9), 0), (179, .ireturn, 0, 0)]]
def qp_k98 : List (List (Nat × Instr × Int32 × Nat)) := [
  [(0, .iload_n 1, 0, 0), (1, .aload_n 0, 0, 0), (2, .getfield 22, 0, 600), (5, .getfield 49, 0, 400), (8, .getfield 53, 0, 300), (11, .invokestatic 84, 0, 991), (14, .istore_n 3, 0, 0), (15, .iload_n 3, 0, 0)],
  [(16, .ifCond .lt 66, 0, 82), (19, .iload_n 3, 0, 0), (20, .sipush 720, 720, 0), (23, .if_icmp .ge 59, 0, 82), (26, .aload_n 0, 0, 0), (27, .getfield 18, 0, 603), (30, .iload_n 3, 0, 0), (31, .baload, 0, 0)],
  [(32, .ifCond .ne 50, 0, 82), (35, .aload_n 0, 0, 0), (36, .getfield 26, 0, 604), (39, .sipush 720, 720, 0), (42, .if_icmp .ge 40, 0, 82), (45, .aload_n 0, 0, 0), (46, .getfield 18, 0, 603)],
  [(49, .iload_n 3, 0, 0), (50, .iconst 1, 1, 0), (51, .bastore, 0, 0), (52, .aload_n 0, 0, 0), (53, .getfield 9, 0, 601), (56, .aload_n 0, 0, 0), (57, .getfield 26, 0, 604), (60, .iload_n 1, 0, 0), (61, .iastore, 0, 0), (62, .aload_n 0, 0, 0), (63, .getfield 15, 0, 602)],
  [(66, .aload_n 0, 0, 0), (67, .getfield 26, 0, 604), (70, .iload_n 2, 0, 0), (71, .iastore, 0, 0), (72, .aload_n 0, 0, 0), (73, .dup, 0, 0), (74, .getfield 26, 0, 604), (77, .iconst 1, 1, 0), (78, .iadd, 0, 0), (79, .putfield 26, 0, 604)],
  [(82, .return_, 0, 0)]]
def qp_k99 : List (List (Nat × Instr × Int32 × Nat)) := [
  [(0, .iconst 0, 0, 0), (1, .istore_n 2, 0, 0), (2, .iconst 0, 0, 0), (3, .istore_n 3, 0, 0), (4, .iconst 0, 0, 0), (5, .istore 4, 0, 0), (7, .iload 4, 0, 0), (9, .iload_n 1, 0, 0), (10, .if_icmp .ge 46, 0, 56), (13, .iload_n 0, 0, 0), (14, .iload 4, 0, 0)],
  [(16, .invokestatic 13, 0, 561), (19, .istore 5, 0, 0), (21, .iload_n 2, 0, 0), (22, .iload_n 1, 0, 0), (23, .iload 4, 0, 0), (25, .isub, 0, 0), (26, .imul, 0, 0), (27, .iload 5, 0, 0), (29, .iadd, 0, 0), (30, .iload_n 3, 0, 0), (31, .iconst 1, 1, 0)],
  [(32, .iload 5, 0, 0), (34, .ishl, 0, 0), (35, .iconst 1, 1, 0), (36, .isub, 0, 0), (37, .iand, 0, 0), (38, .invokestatic 32, 0, 1001), (41, .isub, 0, 0), (42, .istore_n 2, 0, 0), (43, .iload_n 3, 0, 0), (44, .iconst 1, 1, 0), (45, .iload 5, 0, 0), (47, .ishl, 0, 0)],
  [(48, .ior, 0, 0), (49, .istore_n 3, 0, 0), (50, .iinc 4 1, 1, 0), (53, .goto (-46), 0, 7), (56, .iload_n 2, 0, 0), (57, .ireturn, 0, 0)]]
def qp_k100 : List (List (Nat × Instr × Int32 × Nat)) := [
  [(0, .iload_n 0, 0, 0), (1, .iload_n 0, 0, 0), (2, .iconst 1, 1, 0), (3, .iushr, 0, 0), (4, .ldc_w 265, 1431655765, 0), (7, .iand, 0, 0), (8, .isub, 0, 0), (9, .istore_n 0, 0, 0), (10, .iload_n 0, 0, 0), (11, .ldc_w 266, 858993459, 0), (14, .iand, 0, 0), (15, .iload_n 0, 0, 0)],
  [(16, .iconst 2, 2, 0), (17, .iushr, 0, 0), (18, .ldc_w 266, 858993459, 0), (21, .iand, 0, 0), (22, .iadd, 0, 0), (23, .istore_n 0, 0, 0), (24, .iload_n 0, 0, 0), (25, .iload_n 0, 0, 0), (26, .iconst 4, 4, 0), (27, .iushr, 0, 0), (28, .iadd, 0, 0), (29, .ldc_w 267, 252645135, 0)],
  [(32, .iand, 0, 0), (33, .istore_n 0, 0, 0), (34, .iload_n 0, 0, 0), (35, .iload_n 0, 0, 0), (36, .bipush 8, 8, 0), (38, .iushr, 0, 0), (39, .iadd, 0, 0), (40, .istore_n 0, 0, 0), (41, .iload_n 0, 0, 0), (42, .iload_n 0, 0, 0), (43, .bipush 16, 16, 0), (45, .iushr, 0, 0), (46, .iadd, 0, 0), (47, .istore_n 0, 0, 0)],
  [(48, .iload_n 0, 0, 0), (49, .bipush 63, 63, 0), (51, .iand, 0, 0), (52, .ireturn, 0, 0)]]
def qp_k101 : List (List (Nat × Instr × Int32 × Nat)) := [
  [(0, .iload_n 1, 0, 0), (1, .aload_n 0, 0, 0), (2, .getfield 22, 0, 600), (5, .getfield 49, 0, 400), (8, .getfield 53, 0, 300), (11, .iload_n 2, 0, 0), (12, .iload_n 3, 0, 0), (13, .invokestatic 58, 0, 671)],
  [(16, .ifCond .ne 5, 0, 21), (19, .iconst 0, 0, 0), (20, .ireturn, 0, 0), (21, .aload_n 0, 0, 0), (22, .getfield 22, 0, 600), (25, .iload_n 1, 0, 0), (26, .invokevirtual 63, 0, 540), (29, .aload_n 0, 0, 0), (30, .getfield 22, 0, 600)],
  [(33, .getfield 67, 0, 401), (36, .iload 4, 0, 0), (38, .invokevirtual 71, 0, 640), (41, .aload_n 0, 0, 0), (42, .getfield 22, 0, 600), (45, .getfield 67, 0, 401)],
  [(48, .iload 4, 0, 0), (50, .invokevirtual 77, 0, 630), (53, .if_icmp .ne 7, 0, 60), (56, .iconst 1, 1, 0), (57, .goto 4, 0, 61), (60, .iconst 0, 0, 0), (61, .ireturn, 0, 0)]]
def qp_k102 : List (List (Nat × Instr × Int32 × Nat)) := [
  [(0, .aload_n 0, 0, 0), (1, .getfield 22, 0, 600), (4, .getfield 49, 0, 400), (7, .getfield 53, 0, 300), (10, .istore_n 3, 0, 0), (11, .iconst 0, 0, 0), (12, .istore 4, 0, 0), (14, .iload 4, 0, 0)],
  [(16, .iload_n 3, 0, 0), (17, .if_icmp .ge 54, 0, 71), (20, .iconst 0, 0, 0), (21, .istore 5, 0, 0), (23, .iload 5, 0, 0), (25, .iload_n 3, 0, 0), (26, .if_icmp .ge 39, 0, 65), (29, .aload_n 0, 0, 0), (30, .iload_n 1, 0, 0), (31, .iload_n 3, 0, 0)],
  [(32, .bipush 8, 8, 0), (34, .iload 4, 0, 0), (36, .imul, 0, 0), (37, .iload 5, 0, 0), (39, .iadd, 0, 0), (40, .invokestatic 80, 0, 761), (43, .iload_n 2, 0, 0), (44, .bipush 6, 6, 0), (46, .ishl, 0, 0), (47, .bipush 8, 8, 0)],
  [(49, .iload 4, 0, 0), (51, .imul, 0, 0), (52, .iload 5, 0, 0), (54, .iadd, 0, 0), (55, .ior, 0, 0), (56, .invokevirtual 35, 0, 980), (59, .iinc 5 1, 1, 0), (62, .goto (-39), 0, 23)],
  [(65, .iinc 4 1, 1, 0), (68, .goto (-54), 0, 14), (71, .return_, 0, 0)]]
def qp_k103 : List (List (Nat × Instr × Int32 × Nat)) := [
  [(0, .aload_n 0, 0, 0), (1, .getfield 43, 0, 605), (4, .bipush 6, 6, 0), (6, .iload_n 2, 0, 0), (7, .iconst 1, 1, 0), (8, .isub, 0, 0), (9, .iload_n 1, 0, 0), (10, .isub, 0, 0), (11, .imul, 0, 0), (12, .ishr, 0, 0), (13, .bipush 63, 63, 0), (15, .iand, 0, 0)],
  [(16, .ireturn, 0, 0)]]
def qp_k104 : List (List (Nat × Instr × Int32 × Nat)) := [
  [(0, .aload_n 0, 0, 0), (1, .getfield 36, 0, 4), (4, .getfield 134, 0, 400), (7, .getfield 148, 0, 300), (10, .ifCond .ne 19, 0, 29), (13, .aload_n 0, 0, 0), (14, .getfield 14, 0, 0)],
  [(17, .iload_n 1, 0, 0), (18, .invokevirtual 106, 0, 130), (21, .ifCond .eq 8, 0, 29), (24, .bipush (-4), (-4), 0), (26, .goto 8, 0, 34), (29, .aload_n 0, 0, 0), (30, .iload_n 1, 0, 0), (31, .invokevirtual 241, 0, 1050)],
  [(34, .istore_n 2, 0, 0), (35, .iload_n 2, 0, 0), (36, .ifCond .eq 5, 0, 41), (39, .iload_n 2, 0, 0), (40, .ireturn, 0, 0), (41, .aload_n 0, 0, 0), (42, .iload_n 1, 0, 0), (43, .invokevirtual 244, 0, 1060), (46, .aload_n 0, 0, 0), (47, .aload_n 0, 0, 0)],
  [(48, .getfield 52, 0, 6), (51, .getfield 247, 0, 700), (54, .i2l, 0, 0), (55, .lconst 1, 0, 0), (56, .invokevirtual 250, 0, 1110), (59, .ireturn, 0, 0)]]
def qp_k105 : List (List (Nat × Instr × Int32 × Nat)) := [
  [(0, .aload_n 0, 0, 0), (1, .aload_n 0, 0, 0), (2, .getfield 14, 0, 0), (5, .iload_n 1, 0, 0), (6, .invokevirtual 98, 0, 200), (9, .istore_n 2, 0, 0), (10, .iload_n 2, 0, 0), (11, .ifCond .eq 5, 0, 16), (14, .iload_n 2, 0, 0), (15, .ireturn, 0, 0)],
  [(16, .aload_n 0, 0, 0), (17, .getfield 14, 0, 0), (20, .iload_n 1, 0, 0), (21, .invokevirtual 124, 0, 220), (24, .istore_n 3, 0, 0), (25, .iload_n 3, 0, 0), (26, .iconst 2, 2, 0), (27, .irem, 0, 0), (28, .ifCond .ne 9, 0, 37), (31, .iload_n 3, 0, 0)],
  [(32, .bipush 16, 16, 0), (34, .if_icmp .le 9, 0, 43), (37, .aload_n 0, 0, 0), (38, .iconst 5, 5, 0), (39, .invokevirtual 110, 0, 140), (42, .ireturn, 0, 0), (43, .iconst 0, 0, 0), (44, .istore 4, 0, 0), (46, .iload 4, 0, 0)],
  [(48, .iload_n 3, 0, 0), (49, .if_icmp .ge 64, 0, 113), (52, .aload_n 0, 0, 0), (53, .getfield 14, 0, 0), (56, .iload_n 1, 0, 0), (57, .iload 4, 0, 0), (59, .iconst 1, 1, 0), (60, .iadd, 0, 0), (61, .invokevirtual 86, 0, 230)],
  [(64, .istore 5, 0, 0), (66, .aload_n 0, 0, 0), (67, .getfield 36, 0, 4), (70, .getfield 134, 0, 400), (73, .aload_n 0, 0, 0), (74, .getfield 14, 0, 0), (77, .iload_n 1, 0, 0), (78, .iload 4, 0, 0)],
  [(80, .invokevirtual 86, 0, 230), (83, .invokevirtual 152, 0, 530), (86, .ifCond .eq 15, 0, 101), (89, .iload 5, 0, 0), (91, .ifCond .lt 10, 0, 101), (94, .iload 5, 0, 0)],
  [(96, .bipush 9, 9, 0), (98, .if_icmp .le 9, 0, 107), (101, .aload_n 0, 0, 0), (102, .iconst 3, 3, 0), (103, .invokevirtual 110, 0, 140), (106, .ireturn, 0, 0), (107, .iinc 4 2, 2, 0), (110, .goto (-64), 0, 46)],
  [(113, .iconst 0, 0, 0), (114, .ireturn, 0, 0)]]
def qp_k106 : List (List (Nat × Instr × Int32 × Nat)) := [
  [(0, .aload_n 0, 0, 0), (1, .getfield 52, 0, 6), (4, .invokevirtual 340, 0, 1070), (7, .aload_n 0, 0, 0), (8, .getfield 14, 0, 0), (11, .iload_n 1, 0, 0), (12, .invokevirtual 124, 0, 220), (15, .istore_n 2, 0, 0)],
  [(16, .iconst 0, 0, 0), (17, .istore_n 3, 0, 0), (18, .iload_n 3, 0, 0), (19, .iload_n 2, 0, 0), (20, .if_icmp .ge 36, 0, 56), (23, .aload_n 0, 0, 0), (24, .getfield 52, 0, 6), (27, .aload_n 0, 0, 0), (28, .getfield 14, 0, 0), (31, .iload_n 1, 0, 0)],
  [(32, .iload_n 3, 0, 0), (33, .invokevirtual 86, 0, 230), (36, .aload_n 0, 0, 0), (37, .getfield 14, 0, 0), (40, .iload_n 1, 0, 0), (41, .iload_n 3, 0, 0), (42, .iconst 1, 1, 0), (43, .iadd, 0, 0), (44, .invokevirtual 86, 0, 230), (47, .invokevirtual 343, 0, 1080)],
  [(50, .iinc 3 2, 2, 0), (53, .goto (-35), 0, 18), (56, .aload_n 0, 0, 0), (57, .getfield 52, 0, 6), (60, .iconst 0, 0, 0), (61, .iconst 0, 0, 0), (62, .iconst 0, 0, 0), (63, .invokestatic 346, 0, 1097)],
  [(66, .return_, 0, 0)]]
def qp_k107 : List (List (Nat × Instr × Int32 × Nat)) := [
  [(0, .aload_n 0, 0, 0), (1, .iconst 0, 0, 0), (2, .putfield 25, 0, 700), (5, .iconst 0, 0, 0), (6, .istore_n 1, 0, 0), (7, .iload_n 1, 0, 0), (8, .bipush 6, 6, 0), (10, .if_icmp .ge 23, 0, 33), (13, .aload_n 0, 0, 0), (14, .getfield 9, 0, 702)],
  [(17, .iload_n 1, 0, 0), (18, .iconst (-1), (-1), 0), (19, .iastore, 0, 0), (20, .aload_n 0, 0, 0), (21, .getfield 15, 0, 703), (24, .iload_n 1, 0, 0), (25, .iconst 0, 0, 0), (26, .iastore, 0, 0), (27, .iinc 1 1, 1, 0), (30, .goto (-23), 0, 7)],
  [(33, .iconst 0, 0, 0), (34, .istore_n 1, 0, 0), (35, .iload_n 1, 0, 0), (36, .aload_n 0, 0, 0), (37, .getfield 18, 0, 704), (40, .arraylength, 0, 0), (41, .if_icmp .ge 16, 0, 57), (44, .aload_n 0, 0, 0), (45, .getfield 18, 0, 704)],
  [(48, .iload_n 1, 0, 0), (49, .iconst 0, 0, 0), (50, .iastore, 0, 0), (51, .iinc 1 1, 1, 0), (54, .goto (-19), 0, 35), (57, .return_, 0, 0)]]
def qp_k108 : List (List (Nat × Instr × Int32 × Nat)) := [
  [(0, .iload_n 1, 0, 0), (1, .ifCond .lt 44, 0, 45), (4, .iload_n 1, 0, 0), (5, .aload_n 0, 0, 0), (6, .getfield 9, 0, 702), (9, .arraylength, 0, 0), (10, .if_icmp .ge 35, 0, 45), (13, .aload_n 0, 0, 0), (14, .getfield 9, 0, 702)],
  [(17, .iload_n 1, 0, 0), (18, .aload_n 0, 0, 0), (19, .getfield 9, 0, 702), (22, .iload_n 1, 0, 0), (23, .iaload, 0, 0), (24, .iconst (-1), (-1), 0), (25, .if_icmp .eq 13, 0, 38), (28, .aload_n 0, 0, 0), (29, .getfield 9, 0, 702)],
  [(32, .iload_n 1, 0, 0), (33, .iaload, 0, 0), (34, .iload_n 2, 0, 0), (35, .if_icmp .ne 7, 0, 42), (38, .iload_n 2, 0, 0), (39, .goto 5, 0, 44), (42, .bipush (-2), (-2), 0), (44, .iastore, 0, 0), (45, .return_, 0, 0)]]
def qp_k109 : List (List (Nat × Instr × Int32 × Nat)) := [
  [(0, .aload_n 0, 0, 0), (1, .getfield 21, 0, 701), (4, .getfield 29, 0, 400), (7, .getfield 35, 0, 300), (10, .istore 4, 0, 0), (12, .iload_n 2, 0, 0), (13, .iload 4, 0, 0), (15, .if_icmp .lt 9, 0, 24)],
  [(18, .aload_n 0, 0, 0), (19, .iload_n 1, 0, 0), (20, .invokevirtual 40, 0, 1100), (23, .return_, 0, 0), (24, .iconst 0, 0, 0), (25, .istore 5, 0, 0), (27, .iload 5, 0, 0), (29, .iload 4, 0, 0), (31, .if_icmp .ge 38, 0, 69)],
  [(34, .iload_n 3, 0, 0), (35, .iload 5, 0, 0), (37, .ishr, 0, 0), (38, .iconst 1, 1, 0), (39, .iand, 0, 0), (40, .ifCond .ne 23, 0, 63), (43, .aload_n 0, 0, 0), (44, .iload_n 1, 0, 0), (45, .iload_n 2, 0, 0), (46, .iload 5, 0, 0)],
  [(48, .invokestatic 44, 0, 511), (51, .iload_n 2, 0, 0), (52, .iconst 1, 1, 0), (53, .iadd, 0, 0), (54, .iload_n 3, 0, 0), (55, .iconst 1, 1, 0), (56, .iload 5, 0, 0), (58, .ishl, 0, 0), (59, .ior, 0, 0), (60, .invokestatic 50, 0, 1091), (63, .iinc 5 1, 1, 0)],
  [(66, .goto (-39), 0, 27), (69, .return_, 0, 0)]]
def qp_k110 : List (List (Nat × Instr × Int32 × Nat)) := [
  [(0, .aload_n 0, 0, 0), (1, .getfield 21, 0, 701), (4, .iload_n 1, 0, 0), (5, .invokevirtual 54, 0, 540), (8, .aload_n 0, 0, 0), (9, .getfield 21, 0, 701), (12, .getfield 29, 0, 400), (15, .getfield 35, 0, 300)],
  [(18, .istore_n 2, 0, 0), (19, .iconst 0, 0, 0), (20, .istore_n 3, 0, 0), (21, .iload_n 3, 0, 0), (22, .iload_n 2, 0, 0), (23, .if_icmp .ge 49, 0, 72), (26, .iload_n 3, 0, 0), (27, .aload_n 0, 0, 0), (28, .getfield 9, 0, 702), (31, .arraylength, 0, 0)],
  [(32, .if_icmp .ge 40, 0, 72), (35, .aload_n 0, 0, 0), (36, .getfield 9, 0, 702), (39, .iload_n 3, 0, 0), (40, .iaload, 0, 0), (41, .iconst (-1), (-1), 0), (42, .if_icmp .eq 24, 0, 66), (45, .aload_n 0, 0, 0), (46, .getfield 9, 0, 702)],
  [(49, .iload_n 3, 0, 0), (50, .iaload, 0, 0), (51, .aload_n 0, 0, 0), (52, .getfield 21, 0, 701), (55, .getfield 57, 0, 401), (58, .iload_n 3, 0, 0), (59, .invokevirtual 61, 0, 640), (62, .if_icmp .eq 4, 0, 66)],
  [(65, .return_, 0, 0), (66, .iinc 3 1, 1, 0), (69, .goto (-48), 0, 21), (72, .aload_n 0, 0, 0), (73, .dup, 0, 0), (74, .getfield 25, 0, 700), (77, .iconst 1, 1, 0), (78, .iadd, 0, 0), (79, .putfield 25, 0, 700)],
  [(82, .iconst 0, 0, 0), (83, .istore_n 3, 0, 0), (84, .iload_n 3, 0, 0), (85, .iload_n 2, 0, 0), (86, .if_icmp .ge 77, 0, 163), (89, .iload_n 3, 0, 0), (90, .aload_n 0, 0, 0), (91, .getfield 15, 0, 703), (94, .arraylength, 0, 0), (95, .if_icmp .ge 68, 0, 163)],
  [(98, .aload_n 0, 0, 0), (99, .getfield 15, 0, 703), (102, .iload_n 3, 0, 0), (103, .dup2, 0, 0), (104, .iaload, 0, 0), (105, .iconst 1, 1, 0), (106, .iload_n 1, 0, 0), (107, .iload_n 3, 0, 0), (108, .invokestatic 67, 0, 561), (111, .ishl, 0, 0)],
  [(112, .ior, 0, 0), (113, .iastore, 0, 0), (114, .iload_n 3, 0, 0), (115, .iconst 4, 4, 0), (116, .imul, 0, 0), (117, .aload_n 0, 0, 0), (118, .getfield 21, 0, 701), (121, .getfield 57, 0, 401), (124, .iload_n 3, 0, 0), (125, .invokevirtual 61, 0, 640)],
  [(128, .iadd, 0, 0), (129, .istore 4, 0, 0), (131, .iload 4, 0, 0), (133, .ifCond .lt 24, 0, 157), (136, .iload 4, 0, 0), (138, .aload_n 0, 0, 0), (139, .getfield 18, 0, 704), (142, .arraylength, 0, 0), (143, .if_icmp .ge 14, 0, 157)],
  [(146, .aload_n 0, 0, 0), (147, .getfield 18, 0, 704), (150, .iload 4, 0, 0), (152, .dup2, 0, 0), (153, .iaload, 0, 0), (154, .iconst 1, 1, 0), (155, .iadd, 0, 0), (156, .iastore, 0, 0), (157, .iinc 3 1, 1, 0)],
  [(160, .goto (-76), 0, 84), (163, .return_, 0, 0)]]
def qp_k111 : List (List (Nat × Instr × Int32 × Nat)) := [
  [(0, .lload_n 1, 0, 0), (1, .lload_n 3, 0, 0), (2, .invokestatic 315, 0, 1121), (5, .lstore 5, 0, 0), (7, .lload 5, 0, 0), (9, .lconst 0, 0, 0), (10, .lcmp, 0, 0), (11, .ifCond .le 19, 0, 30), (14, .aload_n 0, 0, 0), (15, .lload_n 1, 0, 0)],
  [(16, .lload 5, 0, 0), (18, .ldiv, 0, 0), (19, .putfield 292, 0, 12), (22, .aload_n 0, 0, 0), (23, .lload_n 3, 0, 0), (24, .lload 5, 0, 0), (26, .ldiv, 0, 0), (27, .putfield 74, 0, 13), (30, .iconst 1, 1, 0), (31, .ireturn, 0, 0)]]
def qp_k112 : List (List (Nat × Instr × Int32 × Nat)) := [
  [(0, .lload_n 0, 0, 0), (1, .lstore 4, 0, 0), (3, .lload_n 2, 0, 0), (4, .lstore 6, 0, 0), (6, .iconst 0, 0, 0), (7, .istore 8, 0, 0), (9, .iload 8, 0, 0), (11, .sipush 200, 200, 0), (14, .if_icmp .ge 31, 0, 45)],
  [(17, .lload 6, 0, 0), (19, .lconst 0, 0, 0), (20, .lcmp, 0, 0), (21, .ifCond .eq 24, 0, 45), (24, .lload 4, 0, 0), (26, .lload 6, 0, 0), (28, .lrem, 0, 0), (29, .lstore 9, 0, 0), (31, .lload 6, 0, 0)],
  [(33, .lstore 4, 0, 0), (35, .lload 9, 0, 0), (37, .lstore 6, 0, 0), (39, .iinc 8 1, 1, 0), (42, .goto (-33), 0, 9), (45, .lload 4, 0, 0), (47, .lreturn, 0, 0)]]
def qp_k113 : List (List (Nat × Instr × Int32 × Nat)) := [
  [(0, .aload_n 0, 0, 0), (1, .getfield 36, 0, 4), (4, .getfield 134, 0, 400), (7, .iload_n 2, 0, 0), (8, .invokevirtual 152, 0, 530), (11, .ifCond .eq 11, 0, 22), (14, .aload_n 0, 0, 0), (15, .iload_n 1, 0, 0)],
  [(16, .invokevirtual 241, 0, 1050), (19, .goto 4, 0, 23), (22, .iconst (-1), (-1), 0), (23, .istore_n 3, 0, 0), (24, .iload_n 3, 0, 0), (25, .ifCond .eq 5, 0, 30), (28, .iload_n 3, 0, 0), (29, .ireturn, 0, 0), (30, .aload_n 0, 0, 0), (31, .iload_n 1, 0, 0)],
  [(32, .invokevirtual 244, 0, 1060), (35, .aload_n 0, 0, 0), (36, .getfield 52, 0, 6), (39, .iload_n 2, 0, 0), (40, .invokevirtual 254, 0, 1140), (43, .ireturn, 0, 0)]]
def qp_k114 : List (List (Nat × Instr × Int32 × Nat)) := [
  [(0, .iload_n 1, 0, 0), (1, .ifCond .lt 21, 0, 22), (4, .iload_n 1, 0, 0), (5, .aload_n 0, 0, 0), (6, .getfield 15, 0, 703), (9, .arraylength, 0, 0), (10, .if_icmp .ge 12, 0, 22), (13, .aload_n 0, 0, 0), (14, .getfield 15, 0, 703)],
  [(17, .iload_n 1, 0, 0), (18, .iaload, 0, 0), (19, .goto 4, 0, 23), (22, .iconst 0, 0, 0), (23, .ireturn, 0, 0)]]
def qp_k115 : List (List (Nat × Instr × Int32 × Nat)) := [
  [(0, .aload_n 0, 0, 0), (1, .getfield 36, 0, 4), (4, .getfield 134, 0, 400), (7, .getfield 148, 0, 300), (10, .ifCond .ne 19, 0, 29), (13, .aload_n 0, 0, 0), (14, .getfield 14, 0, 0)],
  [(17, .iload_n 1, 0, 0), (18, .invokevirtual 106, 0, 130), (21, .ifCond .eq 8, 0, 29), (24, .bipush (-4), (-4), 0), (26, .goto 8, 0, 34), (29, .aload_n 0, 0, 0), (30, .iload_n 1, 0, 0), (31, .invokevirtual 241, 0, 1050)],
  [(34, .istore_n 2, 0, 0), (35, .iload_n 2, 0, 0), (36, .ifCond .eq 5, 0, 41), (39, .iload_n 2, 0, 0), (40, .ireturn, 0, 0), (41, .aload_n 0, 0, 0), (42, .iload_n 1, 0, 0), (43, .invokevirtual 244, 0, 1060), (46, .aload_n 0, 0, 0), (47, .getfield 52, 0, 6)],
  [(50, .getfield 247, 0, 700), (53, .ifCond .ne 6, 0, 59), (56, .bipush (-9), (-9), 0), (58, .ireturn, 0, 0), (59, .iconst 0, 0, 0), (60, .istore_n 3, 0, 0), (61, .iconst 1, 1, 0), (62, .istore 4, 0, 0)],
  [(64, .iload 4, 0, 0), (66, .aload_n 0, 0, 0), (67, .getfield 36, 0, 4), (70, .getfield 134, 0, 400), (73, .getfield 148, 0, 300), (76, .if_icmp .ge 32, 0, 108), (79, .aload_n 0, 0, 0)],
  [(80, .getfield 52, 0, 6), (83, .iload 4, 0, 0), (85, .invokevirtual 257, 0, 1160), (88, .aload_n 0, 0, 0), (89, .getfield 52, 0, 6), (92, .iload_n 3, 0, 0), (93, .invokevirtual 257, 0, 1160)],
  [(96, .if_icmp .ge 6, 0, 102), (99, .iload 4, 0, 0), (101, .istore_n 3, 0, 0), (102, .iinc 4 1, 1, 0), (105, .goto (-41), 0, 64), (108, .aload_n 0, 0, 0), (109, .aload_n 0, 0, 0), (110, .getfield 52, 0, 6)],
  [(113, .iload_n 3, 0, 0), (114, .invokevirtual 257, 0, 1160), (117, .invokevirtual 94, 0, 240), (120, .pop, 0, 0), (121, .iload_n 3, 0, 0), (122, .ireturn, 0, 0)]]
def qp_k116 : List (List (Nat × Instr × Int32 × Nat)) := [
  [(0, .iconst 0, 0, 0), (1, .istore_n 2, 0, 0), (2, .iload_n 1, 0, 0), (3, .iconst 4, 4, 0), (4, .imul, 0, 0), (5, .istore_n 3, 0, 0), (6, .iload_n 3, 0, 0), (7, .iload_n 1, 0, 0), (8, .iconst 1, 1, 0), (9, .iadd, 0, 0), (10, .iconst 4, 4, 0), (11, .imul, 0, 0), (12, .if_icmp .ge 33, 0, 45), (15, .iload_n 3, 0, 0)],
  [(16, .ifCond .lt 23, 0, 39), (19, .iload_n 3, 0, 0), (20, .aload_n 0, 0, 0), (21, .getfield 18, 0, 704), (24, .arraylength, 0, 0), (25, .if_icmp .ge 14, 0, 39), (28, .iload_n 2, 0, 0), (29, .aload_n 0, 0, 0), (30, .getfield 18, 0, 704)],
  [(33, .iload_n 3, 0, 0), (34, .iaload, 0, 0), (35, .invokestatic 71, 0, 21), (38, .istore_n 2, 0, 0), (39, .iinc 3 1, 1, 0), (42, .goto (-36), 0, 6), (45, .iload_n 2, 0, 0), (46, .ireturn, 0, 0)]]
def qp_k117 : List (List (Nat × Instr × Int32 × Nat)) := [
  [(0, .iload_n 1, 0, 0), (1, .ifCond .lt 9, 0, 10), (4, .iload_n 1, 0, 0), (5, .bipush 20, 20, 0), (7, .if_icmp .le 5, 0, 12), (10, .iconst (-1), (-1), 0), (11, .ireturn, 0, 0), (12, .aload_n 0, 0, 0), (13, .getfield 36, 0, 4)],
  [(16, .getfield 134, 0, 400), (19, .getfield 148, 0, 300), (22, .ifCond .ne 6, 0, 28), (25, .bipush (-4), (-4), 0), (27, .ireturn, 0, 0), (28, .aload_n 0, 0, 0), (29, .getfield 36, 0, 4)],
  [(32, .aload_n 0, 0, 0), (33, .getfield 36, 0, 4), (36, .getfield 153, 0, 402), (39, .invokevirtual 156, 0, 540), (42, .bipush (-9), (-9), 0), (44, .istore_n 2, 0, 0), (45, .iconst 0, 0, 0), (46, .istore_n 3, 0, 0), (47, .iconst 0, 0, 0)],
  [(48, .istore 4, 0, 0), (50, .iload 4, 0, 0), (52, .iconst 1, 1, 0), (53, .aload_n 0, 0, 0), (54, .getfield 36, 0, 4), (57, .getfield 134, 0, 400), (60, .getfield 148, 0, 300), (63, .ishl, 0, 0)],
  [(64, .if_icmp .ge 39, 0, 103), (67, .aload_n 0, 0, 0), (68, .getfield 36, 0, 4), (71, .getfield 172, 0, 401), (74, .iload 4, 0, 0), (76, .invokevirtual 260, 0, 1180), (79, .iload_n 1, 0, 0)],
  [(80, .if_icmp .ne 17, 0, 97), (83, .iload_n 3, 0, 0), (84, .ifCond .ne 8, 0, 92), (87, .iload 4, 0, 0), (89, .goto 4, 0, 93), (92, .iload_n 2, 0, 0), (93, .istore_n 2, 0, 0), (94, .iinc 3 1, 1, 0)],
  [(97, .iinc 4 1, 1, 0), (100, .goto (-50), 0, 50), (103, .aload_n 0, 0, 0), (104, .iload_n 2, 0, 0), (105, .invokevirtual 94, 0, 240), (108, .pop, 0, 0), (109, .aload_n 0, 0, 0), (110, .iload_n 3, 0, 0), (111, .i2l, 0, 0)],
  [(112, .lconst 1, 0, 0), (113, .invokevirtual 250, 0, 1110), (116, .ireturn, 0, 0)]]
def qp_k118 : List (List (Nat × Instr × Int32 × Nat)) := [
  [(0, .iconst 0, 0, 0), (1, .istore_n 2, 0, 0), (2, .iconst 0, 0, 0), (3, .istore_n 3, 0, 0), (4, .iload_n 3, 0, 0), (5, .aload_n 0, 0, 0), (6, .getfield 24, 0, 502), (9, .getfield 76, 0, 300), (12, .if_icmp .ge 26, 0, 38), (15, .iload_n 1, 0, 0)],
  [(16, .iload_n 3, 0, 0), (17, .ishr, 0, 0), (18, .iconst 1, 1, 0), (19, .iand, 0, 0), (20, .iconst 1, 1, 0), (21, .if_icmp .ne 11, 0, 32), (24, .iload_n 2, 0, 0), (25, .aload_n 0, 0, 0), (26, .iload_n 3, 0, 0), (27, .invokevirtual 79, 0, 630), (30, .iadd, 0, 0), (31, .istore_n 2, 0, 0)],
  [(32, .iinc 3 1, 1, 0), (35, .goto (-31), 0, 4), (38, .iload_n 2, 0, 0), (39, .ireturn, 0, 0)]]
def qp_k119 : List (List (Nat × Instr × Int32 × Nat)) := [
  [(0, .iload_n 1, 0, 0), (1, .ifCond .lt 9, 0, 10), (4, .iload_n 1, 0, 0), (5, .bipush 20, 20, 0), (7, .if_icmp .le 5, 0, 12), (10, .iconst (-1), (-1), 0), (11, .ireturn, 0, 0), (12, .aload_n 0, 0, 0), (13, .getfield 36, 0, 4)],
  [(16, .getfield 134, 0, 400), (19, .getfield 148, 0, 300), (22, .ifCond .ne 6, 0, 28), (25, .bipush (-4), (-4), 0), (27, .ireturn, 0, 0), (28, .aload_n 0, 0, 0), (29, .getfield 36, 0, 4)],
  [(32, .aload_n 0, 0, 0), (33, .getfield 36, 0, 4), (36, .getfield 153, 0, 402), (39, .invokevirtual 156, 0, 540), (42, .iconst 1, 1, 0), (43, .aload_n 0, 0, 0), (44, .getfield 36, 0, 4), (47, .getfield 134, 0, 400)],
  [(50, .getfield 148, 0, 300), (53, .ishl, 0, 0), (54, .iconst 1, 1, 0), (55, .isub, 0, 0), (56, .istore_n 2, 0, 0), (57, .iconst 0, 0, 0), (58, .istore_n 3, 0, 0), (59, .iload_n 2, 0, 0), (60, .istore 4, 0, 0), (62, .iconst 0, 0, 0), (63, .istore 5, 0, 0)],
  [(65, .iconst 0, 0, 0), (66, .istore 6, 0, 0), (68, .iload 6, 0, 0), (70, .iload_n 2, 0, 0), (71, .if_icmp .gt 42, 0, 113), (74, .aload_n 0, 0, 0), (75, .getfield 36, 0, 4), (78, .getfield 172, 0, 401)],
  [(81, .iload 6, 0, 0), (83, .invokevirtual 260, 0, 1180), (86, .iload_n 1, 0, 0), (87, .if_icmp .ne 20, 0, 107), (90, .iload 4, 0, 0), (92, .iload 6, 0, 0), (94, .iand, 0, 0), (95, .istore 4, 0, 0)],
  [(97, .iload 5, 0, 0), (99, .iload 6, 0, 0), (101, .ior, 0, 0), (102, .istore 5, 0, 0), (104, .iinc 3 1, 1, 0), (107, .iinc 6 1, 1, 0), (110, .goto (-42), 0, 68)],
  [(113, .iload_n 3, 0, 0), (114, .ifCond .ne 9, 0, 123), (117, .aload_n 0, 0, 0), (118, .iconst 4, 4, 0), (119, .invokevirtual 110, 0, 140), (122, .ireturn, 0, 0), (123, .aload_n 0, 0, 0), (124, .iload_n 2, 0, 0), (125, .iload 5, 0, 0), (127, .iconst (-1), (-1), 0)],
  [(128, .ixor, 0, 0), (129, .iand, 0, 0), (130, .invokevirtual 94, 0, 240), (133, .pop, 0, 0), (134, .iload 4, 0, 0), (136, .ireturn, 0, 0)]]
def qp_k120 : List (List (Nat × Instr × Int32 × Nat)) := [
  [(0, .aload_n 0, 0, 0), (1, .getfield 36, 0, 4), (4, .getfield 134, 0, 400), (7, .iload_n 1, 0, 0), (8, .invokevirtual 152, 0, 530), (11, .ifCond .eq 31, 0, 42), (14, .aload_n 0, 0, 0), (15, .getfield 36, 0, 4)],
  [(18, .getfield 134, 0, 400), (21, .iload_n 2, 0, 0), (22, .invokevirtual 152, 0, 530), (25, .ifCond .eq 17, 0, 42), (28, .iload_n 1, 0, 0), (29, .iload_n 2, 0, 0), (30, .if_icmp .eq 12, 0, 42)],
  [(33, .iload_n 3, 0, 0), (34, .ifCond .lt 8, 0, 42), (37, .iload_n 3, 0, 0), (38, .iconst 2, 2, 0), (39, .if_icmp .le 5, 0, 44), (42, .iconst (-1), (-1), 0), (43, .ireturn, 0, 0), (44, .aload_n 0, 0, 0), (45, .aload_n 0, 0, 0), (46, .getfield 59, 0, 7)],
  [(49, .iload_n 1, 0, 0), (50, .iload_n 2, 0, 0), (51, .iload_n 3, 0, 0), (52, .invokevirtual 263, 0, 1210), (55, .invokevirtual 94, 0, 240), (58, .ireturn, 0, 0)]]
def qp_k121 : List (List (Nat × Instr × Int32 × Nat)) := [
  [(0, .aload_n 0, 0, 0), (1, .iload_n 1, 0, 0), (2, .putfield 13, 0, 801), (5, .aload_n 0, 0, 0), (6, .iload_n 2, 0, 0), (7, .putfield 17, 0, 802), (10, .aload_n 0, 0, 0), (11, .aload_n 0, 0, 0), (12, .getfield 7, 0, 800), (15, .getfield 20, 0, 402)],
  [(18, .iconst 2, 2, 0), (19, .iload_n 3, 0, 0), (20, .imul, 0, 0), (21, .invokestatic 25, 0, 1221), (24, .ireturn, 0, 0)]]
def qp_k122 : List (List (Nat × Instr × Int32 × Nat)) := [
  [(0, .iload_n 2, 0, 0), (1, .ifCond .gt 9, 0, 10), (4, .aload_n 0, 0, 0), (5, .iload_n 1, 0, 0), (6, .invokevirtual 29, 0, 1230), (9, .ireturn, 0, 0), (10, .iload_n 2, 0, 0), (11, .iconst 2, 2, 0), (12, .irem, 0, 0), (13, .ifCond .ne 7, 0, 20)],
  [(16, .iconst 1, 1, 0), (17, .goto 4, 0, 21), (20, .iconst 0, 0, 0), (21, .istore_n 3, 0, 0), (22, .iload_n 3, 0, 0), (23, .ifCond .eq 10, 0, 33), (26, .aload_n 0, 0, 0), (27, .getfield 13, 0, 801), (30, .goto 7, 0, 37)],
  [(33, .aload_n 0, 0, 0), (34, .getfield 17, 0, 802), (37, .istore 4, 0, 0), (39, .aload_n 0, 0, 0), (40, .getfield 7, 0, 800), (43, .getfield 33, 0, 400), (46, .getfield 37, 0, 300)],
  [(49, .istore 5, 0, 0), (51, .iconst 0, 0, 0), (52, .istore 6, 0, 0), (54, .iconst 0, 0, 0), (55, .istore 7, 0, 0), (57, .iload 7, 0, 0), (59, .iload 5, 0, 0), (61, .if_icmp .ge 62, 0, 123)],
  [(64, .aload_n 0, 0, 0), (65, .iload_n 1, 0, 0), (66, .iload 5, 0, 0), (68, .bipush 8, 8, 0), (70, .iload 4, 0, 0), (72, .imul, 0, 0), (73, .iload 7, 0, 0), (75, .iadd, 0, 0), (76, .invokestatic 42, 0, 761), (79, .iload_n 2, 0, 0)],
  [(80, .iconst 1, 1, 0), (81, .isub, 0, 0), (82, .invokestatic 25, 0, 1221), (85, .istore 8, 0, 0), (87, .iload 7, 0, 0), (89, .ifCond .eq 24, 0, 113), (92, .iload_n 3, 0, 0), (93, .ifCond .eq 13, 0, 106)],
  [(96, .iload 8, 0, 0), (98, .iload 6, 0, 0), (100, .if_icmp .le 17, 0, 117), (103, .goto 10, 0, 113), (106, .iload 8, 0, 0), (108, .iload 6, 0, 0), (110, .if_icmp .ge 7, 0, 117)],
  [(113, .iload 8, 0, 0), (115, .istore 6, 0, 0), (117, .iinc 7 1, 1, 0), (120, .goto (-63), 0, 57), (123, .iload 6, 0, 0), (125, .ireturn, 0, 0)]]
def qp_k123 : List (List (Nat × Instr × Int32 × Nat)) := [
  [(0, .aload_n 0, 0, 0), (1, .getfield 7, 0, 800), (4, .iload_n 1, 0, 0), (5, .invokevirtual 48, 0, 540), (8, .aload_n 0, 0, 0), (9, .getfield 7, 0, 800), (12, .getfield 52, 0, 401), (15, .aload_n 0, 0, 0)],
  [(16, .getfield 13, 0, 801), (19, .invokevirtual 56, 0, 640), (22, .aload_n 0, 0, 0), (23, .getfield 7, 0, 800), (26, .getfield 52, 0, 401), (29, .aload_n 0, 0, 0), (30, .getfield 17, 0, 802)],
  [(33, .invokevirtual 56, 0, 640), (36, .isub, 0, 0), (37, .ireturn, 0, 0)]]
def qp_k124 : List (List (Nat × Instr × Int32 × Nat)) := [
  [(0, .aload_n 0, 0, 0), (1, .getfield 36, 0, 4), (4, .getfield 134, 0, 400), (7, .iload_n 1, 0, 0), (8, .invokevirtual 152, 0, 530), (11, .ifCond .eq 13, 0, 24), (14, .iload_n 2, 0, 0), (15, .ifCond .lt 9, 0, 24)],
  [(18, .iload_n 2, 0, 0), (19, .bipush 12, 12, 0), (21, .if_icmp .le 5, 0, 26), (24, .iconst (-1), (-1), 0), (25, .ireturn, 0, 0), (26, .aload_n 0, 0, 0), (27, .aload_n 0, 0, 0), (28, .getfield 66, 0, 8), (31, .iload_n 1, 0, 0)],
  [(32, .iload_n 2, 0, 0), (33, .invokevirtual 266, 0, 1250), (36, .aload_n 0, 0, 0), (37, .getfield 66, 0, 8), (40, .invokevirtual 270, 0, 1290), (43, .invokevirtual 250, 0, 1110), (46, .ireturn, 0, 0)]]
def qp_k125 : List (List (Nat × Instr × Int32 × Nat)) := [
  [(0, .lconst 0, 0, 0), (1, .lstore_n 3, 0, 0), (2, .iconst 0, 0, 0), (3, .istore 5, 0, 0), (5, .iload 5, 0, 0), (7, .iconst 1, 1, 0), (8, .aload_n 0, 0, 0), (9, .getfield 9, 0, 900), (12, .getfield 15, 0, 400), (15, .getfield 21, 0, 300)],
  [(18, .ishl, 0, 0), (19, .if_icmp .ge 39, 0, 58), (22, .aload_n 0, 0, 0), (23, .iload 5, 0, 0), (25, .invokevirtual 31, 0, 1260), (28, .lload_n 3, 0, 0), (29, .aload_n 0, 0, 0), (30, .iload_n 2, 0, 0), (31, .invokevirtual 35, 0, 1270)],
  [(34, .aload_n 0, 0, 0), (35, .getfield 9, 0, 900), (38, .getfield 39, 0, 401), (41, .getfield 43, 0, 501), (44, .iload_n 1, 0, 0), (45, .ishr, 0, 0), (46, .iconst 1, 1, 0), (47, .iand, 0, 0)],
  [(48, .i2l, 0, 0), (49, .lmul, 0, 0), (50, .ladd, 0, 0), (51, .lstore_n 3, 0, 0), (52, .iinc 5 1, 1, 0), (55, .goto (-50), 0, 5), (58, .lload_n 3, 0, 0), (59, .lreturn, 0, 0)]]
def qp_k126 : List (List (Nat × Instr × Int32 × Nat)) := [
  [(0, .iconst 0, 0, 0), (1, .istore_n 2, 0, 0), (2, .aload_n 0, 0, 0), (3, .iconst 0, 0, 0), (4, .putfield 52, 0, 901), (7, .iconst 0, 0, 0), (8, .istore_n 3, 0, 0), (9, .iload_n 3, 0, 0), (10, .aload_n 0, 0, 0), (11, .getfield 9, 0, 900), (14, .getfield 15, 0, 400)],
  [(17, .getfield 21, 0, 300), (20, .if_icmp .ge 53, 0, 73), (23, .aload_n 0, 0, 0), (24, .getfield 9, 0, 900), (27, .getfield 53, 0, 402), (30, .iload_n 3, 0, 0), (31, .invokestatic 56, 0, 561)],
  [(34, .istore 4, 0, 0), (36, .iload_n 1, 0, 0), (37, .iload 4, 0, 0), (39, .ishr, 0, 0), (40, .iconst 1, 1, 0), (41, .iand, 0, 0), (42, .iconst 1, 1, 0), (43, .if_icmp .ne 24, 0, 67), (46, .iload_n 2, 0, 0), (47, .aload_n 0, 0, 0)],
  [(48, .getfield 52, 0, 901), (51, .iload 4, 0, 0), (53, .invokestatic 62, 0, 511), (56, .istore_n 2, 0, 0), (57, .aload_n 0, 0, 0), (58, .dup, 0, 0), (59, .getfield 52, 0, 901), (62, .iconst 1, 1, 0), (63, .iadd, 0, 0)],
  [(64, .putfield 52, 0, 901), (67, .iinc 3 1, 1, 0), (70, .goto (-61), 0, 9), (73, .aload_n 0, 0, 0), (74, .getfield 9, 0, 900), (77, .getfield 39, 0, 401)],
  [(80, .iload_n 2, 0, 0), (81, .aload_n 0, 0, 0), (82, .getfield 52, 0, 901), (85, .aload_n 0, 0, 0), (86, .getfield 9, 0, 900), (89, .getfield 66, 0, 403), (92, .invokevirtual 69, 0, 550), (95, .return_, 0, 0)]]
def qp_k127 : List (List (Nat × Instr × Int32 × Nat)) := [
  [(0, .bipush 12, 12, 0), (2, .iload_n 1, 0, 0), (3, .isub, 0, 0), (4, .aload_n 0, 0, 0), (5, .getfield 52, 0, 901), (8, .invokestatic 27, 0, 1281), (11, .iload_n 1, 0, 0), (12, .aload_n 0, 0, 0), (13, .getfield 9, 0, 900)],
  [(16, .getfield 15, 0, 400), (19, .getfield 21, 0, 300), (22, .aload_n 0, 0, 0), (23, .getfield 52, 0, 901), (26, .isub, 0, 0), (27, .invokestatic 27, 0, 1281), (30, .lmul, 0, 0), (31, .lreturn, 0, 0)]]
def qp_k128 : List (List (Nat × Instr × Int32 × Nat)) := [
  [(0, .lconst 1, 0, 0), (1, .lstore_n 2, 0, 0), (2, .iconst 0, 0, 0), (3, .istore 4, 0, 0), (5, .iload 4, 0, 0), (7, .iload_n 1, 0, 0), (8, .if_icmp .ge 14, 0, 22), (11, .lload_n 2, 0, 0), (12, .iload_n 0, 0, 0), (13, .i2l, 0, 0), (14, .lmul, 0, 0), (15, .lstore_n 2, 0, 0)],
  [(16, .iinc 4 1, 1, 0), (19, .goto (-14), 0, 5), (22, .lload_n 2, 0, 0), (23, .lreturn, 0, 0)]]
def qp_k129 : List (List (Nat × Instr × Int32 × Nat)) := [
  [(0, .bipush 12, 12, 0), (2, .aload_n 0, 0, 0), (3, .getfield 9, 0, 900), (6, .getfield 15, 0, 400), (9, .getfield 21, 0, 300), (12, .invokestatic 27, 0, 1281), (15, .lreturn, 0, 0)]]
def qp_k130 : List (List (Nat × Instr × Int32 × Nat)) := [
  [(0, .iload_n 1, 0, 0), (1, .ifCond .lt 9, 0, 10), (4, .iload_n 1, 0, 0), (5, .bipush 12, 12, 0), (7, .if_icmp .le 5, 0, 12), (10, .iconst (-1), (-1), 0), (11, .ireturn, 0, 0), (12, .aload_n 0, 0, 0), (13, .getfield 36, 0, 4)],
  [(16, .getfield 134, 0, 400), (19, .getfield 148, 0, 300), (22, .ifCond .ne 6, 0, 28), (25, .bipush (-4), (-4), 0), (27, .ireturn, 0, 0), (28, .aload_n 0, 0, 0), (29, .aload_n 0, 0, 0), (30, .getfield 66, 0, 8)],
  [(33, .iload_n 1, 0, 0), (34, .invokevirtual 274, 0, 1310), (37, .aload_n 0, 0, 0), (38, .getfield 66, 0, 8), (41, .invokevirtual 270, 0, 1290), (44, .invokevirtual 250, 0, 1110), (47, .ireturn, 0, 0)]]
def qp_k131 : List (List (Nat × Instr × Int32 × Nat)) := [
  [(0, .lconst 0, 0, 0), (1, .lstore_n 2, 0, 0), (2, .iconst 0, 0, 0), (3, .istore 4, 0, 0), (5, .iload 4, 0, 0), (7, .iconst 1, 1, 0), (8, .aload_n 0, 0, 0), (9, .getfield 9, 0, 900), (12, .getfield 15, 0, 400), (15, .getfield 21, 0, 300)],
  [(18, .ishl, 0, 0), (19, .if_icmp .ge 35, 0, 54), (22, .aload_n 0, 0, 0), (23, .iload 4, 0, 0), (25, .invokevirtual 31, 0, 1260), (28, .lload_n 2, 0, 0), (29, .aload_n 0, 0, 0), (30, .iload_n 1, 0, 0), (31, .invokevirtual 35, 0, 1270)],
  [(34, .aload_n 0, 0, 0), (35, .getfield 9, 0, 900), (38, .getfield 39, 0, 401), (41, .invokevirtual 48, 0, 1320), (44, .i2l, 0, 0), (45, .lmul, 0, 0), (46, .ladd, 0, 0), (47, .lstore_n 2, 0, 0)],
  [(48, .iinc 4 1, 1, 0), (51, .goto (-46), 0, 5), (54, .lload_n 2, 0, 0), (55, .lreturn, 0, 0)]]
def qp_k132 : List (List (Nat × Instr × Int32 × Nat)) := [
  [(0, .aload_n 0, 0, 0), (1, .getfield 32, 0, 504), (4, .ireturn, 0, 0)]]
def qp_k133 : List (List (Nat × Instr × Int32 × Nat)) := [
  [(0, .iload_n 1, 0, 0), (1, .iconst 1, 1, 0), (2, .if_icmp .lt 21, 0, 23), (5, .iload_n 1, 0, 0), (6, .bipush 20, 20, 0), (8, .if_icmp .gt 15, 0, 23), (11, .iload_n 2, 0, 0), (12, .iconst 1, 1, 0), (13, .if_icmp .lt 10, 0, 23)],
  [(16, .iload_n 2, 0, 0), (17, .ldc_w 277, 2147483647, 0), (20, .if_icmp .lt 5, 0, 25), (23, .iconst (-1), (-1), 0), (24, .ireturn, 0, 0), (25, .aload_n 0, 0, 0), (26, .getfield 36, 0, 4), (29, .getfield 134, 0, 400)],
  [(32, .getfield 148, 0, 300), (35, .ifCond .ne 6, 0, 41), (38, .bipush (-4), (-4), 0), (40, .ireturn, 0, 0), (41, .aload_n 0, 0, 0), (42, .getfield 36, 0, 4), (45, .getfield 196, 0, 405)],
  [(48, .iload_n 1, 0, 0), (49, .iadd, 0, 0), (50, .bipush 40, 40, 0), (52, .if_icmp .le 6, 0, 58), (55, .bipush (-2), (-2), 0), (57, .ireturn, 0, 0), (58, .iload_n 2, 0, 0), (59, .i2l, 0, 0), (60, .lstore_n 3, 0, 0), (61, .iconst 0, 0, 0), (62, .istore 5, 0, 0)],
  [(64, .iload 5, 0, 0), (66, .iload_n 1, 0, 0), (67, .if_icmp .ge 28, 0, 95), (70, .lload_n 3, 0, 0), (71, .ldc2_w 278, 0, 0), (74, .lmul, 0, 0), (75, .ldc2_w 280, 0, 0), (78, .lrem, 0, 0), (79, .lstore_n 3, 0, 0)],
  [(80, .aload_n 0, 0, 0), (81, .getfield 36, 0, 4), (84, .lload_n 3, 0, 0), (85, .l2i, 0, 0), (86, .invokevirtual 282, 0, 1340), (89, .iinc 5 1, 1, 0), (92, .goto (-28), 0, 64), (95, .aload_n 0, 0, 0)],
  [(96, .getfield 36, 0, 4), (99, .aload_n 0, 0, 0), (100, .getfield 36, 0, 4), (103, .getfield 153, 0, 402), (106, .invokevirtual 156, 0, 540), (109, .aload_n 0, 0, 0), (110, .getfield 36, 0, 4)],
  [(113, .getfield 172, 0, 401), (116, .invokevirtual 285, 0, 1350), (119, .ireturn, 0, 0)]]
def qp_k134 : List (List (Nat × Instr × Int32 × Nat)) := [
  [(0, .aload_n 0, 0, 0), (1, .getfield 12, 0, 400), (4, .getfield 34, 0, 300), (7, .ifCond .ne 4, 0, 11), (10, .return_, 0, 0), (11, .iload_n 1, 0, 0), (12, .bipush 8, 8, 0), (14, .idiv, 0, 0), (15, .bipush 8, 8, 0)],
  [(17, .irem, 0, 0), (18, .istore_n 2, 0, 0), (19, .iload_n 1, 0, 0), (20, .bipush 64, 64, 0), (22, .idiv, 0, 0), (23, .istore_n 3, 0, 0), (24, .iload_n 2, 0, 0), (25, .bipush 7, 7, 0), (27, .if_icmp .ne 15, 0, 42), (30, .aload_n 0, 0, 0), (31, .iconst 3, 3, 0)],
  [(32, .iload_n 3, 0, 0), (33, .bipush 21, 21, 0), (35, .irem, 0, 0), (36, .invokevirtual 97, 0, 740), (39, .goto 101, 0, 140), (42, .iload_n 2, 0, 0), (43, .bipush 6, 6, 0), (45, .if_icmp .ne 24, 0, 69)],
  [(48, .aload_n 0, 0, 0), (49, .getfield 51, 0, 404), (52, .ifCond .le 17, 0, 69), (55, .aload_n 0, 0, 0), (56, .iconst 2, 2, 0), (57, .iload_n 3, 0, 0), (58, .aload_n 0, 0, 0), (59, .getfield 51, 0, 404), (62, .irem, 0, 0), (63, .invokevirtual 97, 0, 740)],
  [(66, .goto 74, 0, 140), (69, .iload_n 2, 0, 0), (70, .bipush 6, 6, 0), (72, .if_icmp .ge 62, 0, 134), (75, .aload_n 0, 0, 0), (76, .bipush 8, 8, 0), (78, .iload_n 1, 0, 0), (79, .aload_n 0, 0, 0)],
  [(80, .getfield 12, 0, 400), (83, .getfield 34, 0, 300), (86, .irem, 0, 0), (87, .imul, 0, 0), (88, .iload_n 3, 0, 0), (89, .aload_n 0, 0, 0), (90, .getfield 12, 0, 400), (93, .getfield 34, 0, 300)],
  [(96, .irem, 0, 0), (97, .iadd, 0, 0), (98, .invokevirtual 101, 0, 730), (101, .ifCond .eq 33, 0, 134), (104, .aload_n 0, 0, 0), (105, .iconst 1, 1, 0), (106, .bipush 8, 8, 0), (108, .iload_n 1, 0, 0), (109, .aload_n 0, 0, 0), (110, .getfield 12, 0, 400)],
  [(113, .getfield 34, 0, 300), (116, .irem, 0, 0), (117, .imul, 0, 0), (118, .iload_n 3, 0, 0), (119, .aload_n 0, 0, 0), (120, .getfield 12, 0, 400), (123, .getfield 34, 0, 300), (126, .irem, 0, 0), (127, .iadd, 0, 0)],
  [(128, .invokevirtual 97, 0, 740), (131, .goto 9, 0, 140), (134, .aload_n 0, 0, 0), (135, .iconst 0, 0, 0), (136, .iconst 0, 0, 0), (137, .invokevirtual 97, 0, 740), (140, .return_, 0, 0)]]
def qp_k135 : List (List (Nat × Instr × Int32 × Nat)) := [
  [(0, .aload_n 0, 0, 0), (1, .getfield 28, 0, 503), (4, .aload_n 0, 0, 0), (5, .getfield 32, 0, 504), (8, .isub, 0, 0), (9, .ireturn, 0, 0)]]
def qp_k136 : List (List (Nat × Instr × Int32 × Nat)) := [
  [(0, .aload_n 0, 0, 0), (1, .getfield 289, 0, 11), (4, .ireturn, 0, 0)]]
def qp_k137 : List (List (Nat × Instr × Int32 × Nat)) := [
  [(0, .aload_n 0, 0, 0), (1, .getfield 292, 0, 12), (4, .lreturn, 0, 0)]]
def qp_k138 : List (List (Nat × Instr × Int32 × Nat)) := [
  [(0, .aload_n 0, 0, 0), (1, .getfield 74, 0, 13), (4, .lreturn, 0, 0)]]
def qp_k139 : List (List (Nat × Instr × Int32 × Nat)) := [
  [(0, .iload_n 1, 0, 0), (1, .ifCond .lt 9, 0, 10), (4, .iload_n 1, 0, 0), (5, .bipush 11, 11, 0), (7, .if_icmp .le 5, 0, 12), (10, .iconst (-1), (-1), 0), (11, .ireturn, 0, 0), (12, .aload_n 0, 0, 0), (13, .getfield 36, 0, 4)],
  [(16, .aload_n 0, 0, 0), (17, .getfield 36, 0, 4), (20, .getfield 153, 0, 402), (23, .invokevirtual 156, 0, 540), (26, .aload_n 0, 0, 0), (27, .iload_n 1, 0, 0), (28, .invokevirtual 295, 0, 1400), (31, .ireturn, 0, 0)]]
def qp_k140 : List (List (Nat × Instr × Int32 × Nat)) := [
  [(0, .iload_n 1, 0, 0), (1, .tableswitch 167 0 10 #[59, 70, 78, 86, 94, 105, 116, 127, 139, 151, 159], 0, 59)],
  [],
  [],
  [(60, .aload_n 0, 0, 0), (61, .getfield 36, 0, 4)],
  [(64, .getfield 134, 0, 400), (67, .getfield 148, 0, 300), (70, .ireturn, 0, 0), (71, .aload_n 0, 0, 0), (72, .getfield 36, 0, 4), (75, .getfield 209, 0, 403), (78, .ireturn, 0, 0), (79, .aload_n 0, 0, 0)],
  [(80, .getfield 36, 0, 4), (83, .getfield 190, 0, 404), (86, .ireturn, 0, 0), (87, .aload_n 0, 0, 0), (88, .getfield 36, 0, 4), (91, .getfield 196, 0, 405), (94, .ireturn, 0, 0), (95, .aload_n 0, 0, 0)],
  [(96, .getfield 36, 0, 4), (99, .getfield 172, 0, 401), (102, .getfield 328, 0, 500), (105, .ireturn, 0, 0), (106, .aload_n 0, 0, 0), (107, .getfield 36, 0, 4), (110, .getfield 172, 0, 401)],
  [(113, .invokevirtual 285, 0, 1350), (116, .ireturn, 0, 0), (117, .aload_n 0, 0, 0), (118, .getfield 36, 0, 4), (121, .getfield 172, 0, 401), (124, .getfield 331, 0, 501), (127, .ireturn, 0, 0)],
  [(128, .aload_n 0, 0, 0), (129, .getfield 36, 0, 4), (132, .getfield 134, 0, 400), (135, .iconst 1, 1, 0), (136, .invokevirtual 334, 0, 1410), (139, .ireturn, 0, 0), (140, .aload_n 0, 0, 0), (141, .getfield 36, 0, 4)],
  [(144, .getfield 134, 0, 400), (147, .iconst 2, 2, 0), (148, .invokevirtual 334, 0, 1410), (151, .ireturn, 0, 0), (152, .aload_n 0, 0, 0), (153, .getfield 14, 0, 0), (156, .invokevirtual 337, 0, 1420), (159, .ireturn, 0, 0)],
  [(160, .aload_n 0, 0, 0), (161, .getfield 18, 0, 1), (164, .invokevirtual 337, 0, 1420), (167, .ireturn, 0, 0), (168, .aload_n 0, 0, 0), (169, .getfield 21, 0, 2), (172, .invokevirtual 337, 0, 1420), (175, .ireturn, 0, 0)]]
def qp_k141 : List (List (Nat × Instr × Int32 × Nat)) := [
  [(0, .iconst 0, 0, 0), (1, .istore_n 2, 0, 0), (2, .iconst 0, 0, 0), (3, .istore_n 3, 0, 0), (4, .iload_n 3, 0, 0), (5, .aload_n 0, 0, 0), (6, .getfield 18, 0, 300), (9, .if_icmp .ge 24, 0, 33), (12, .aload_n 0, 0, 0), (13, .iload_n 3, 0, 0), (14, .invokevirtual 28, 0, 470)],
  [(17, .iload_n 1, 0, 0), (18, .invokestatic 39, 0, 571), (21, .ifCond .eq 6, 0, 27), (24, .iinc 2 1, 1, 0), (27, .iinc 3 1, 1, 0), (30, .goto (-26), 0, 4)],
  [(33, .iload_n 2, 0, 0), (34, .ireturn, 0, 0)]]
def qp_k142 : List (List (Nat × Instr × Int32 × Nat)) := [
  [(0, .iconst 0, 0, 0), (1, .istore_n 1, 0, 0), (2, .iconst 0, 0, 0), (3, .istore_n 2, 0, 0), (4, .iload_n 2, 0, 0), (5, .aload_n 0, 0, 0), (6, .getfield 19, 0, 101), (9, .arraylength, 0, 0), (10, .if_icmp .ge 20, 0, 30), (13, .aload_n 0, 0, 0), (14, .iload_n 2, 0, 0), (15, .invokevirtual 34, 0, 210)],
  [(18, .ifCond .eq 6, 0, 24), (21, .iinc 1 1, 1, 0), (24, .iinc 2 1, 1, 0), (27, .goto (-23), 0, 4), (30, .iload_n 1, 0, 0), (31, .ireturn, 0, 0)]]
def qp_k143 : List (List (Nat × Instr × Int32 × Nat)) := [
  [(0, .aload_n 0, 0, 0), (1, .getfield 298, 0, 10), (4, .ireturn, 0, 0)]]
def qp_k144 : List (List (Nat × Instr × Int32 × Nat)) := [
  [(0, .iload_n 1, 0, 0), (1, .iconst 1, 1, 0), (2, .if_icmp .lt 17, 0, 19), (5, .iload_n 1, 0, 0), (6, .iconst 5, 5, 0), (7, .if_icmp .gt 12, 0, 19), (10, .aload_n 0, 0, 0), (11, .getfield 70, 0, 9), (14, .iload_n 1, 0, 0), (15, .iaload, 0, 0)],
  [(16, .goto 4, 0, 20), (19, .iconst (-1), (-1), 0), (20, .ireturn, 0, 0)]]
def qp_k145 : List (List (Nat × Instr × Int32 × Nat)) := [
  [(0, .aload_n 0, 0, 0), (1, .getfield 36, 0, 4), (4, .aload_n 0, 0, 0), (5, .getfield 36, 0, 4), (8, .getfield 153, 0, 402), (11, .invokevirtual 156, 0, 540), (14, .ldc2_w 301, 0, 0)],
  [(17, .lstore_n 1, 0, 0), (18, .iconst 0, 0, 0), (19, .istore_n 3, 0, 0), (20, .iload_n 3, 0, 0), (21, .bipush 11, 11, 0), (23, .if_icmp .gt 22, 0, 45), (26, .ldc2_w 303, 0, 0), (29, .lload_n 1, 0, 0), (30, .lmul, 0, 0), (31, .aload_n 0, 0, 0)],
  [(32, .iload_n 3, 0, 0), (33, .invokevirtual 295, 0, 1400), (36, .i2l, 0, 0), (37, .ladd, 0, 0), (38, .lstore_n 1, 0, 0), (39, .iinc 3 1, 1, 0), (42, .goto (-22), 0, 20), (45, .iconst 0, 0, 0), (46, .istore_n 3, 0, 0), (47, .iload_n 3, 0, 0)],
  [(48, .aload_n 0, 0, 0), (49, .getfield 36, 0, 4), (52, .getfield 134, 0, 400), (55, .getfield 148, 0, 300), (58, .if_icmp .ge 40, 0, 98), (61, .iconst 0, 0, 0), (62, .istore 4, 0, 0)],
  [(64, .iload 4, 0, 0), (66, .bipush 6, 6, 0), (68, .if_icmp .gt 24, 0, 92), (71, .ldc2_w 303, 0, 0), (74, .lload_n 1, 0, 0), (75, .lmul, 0, 0), (76, .aload_n 0, 0, 0), (77, .iload_n 3, 0, 0), (78, .iload 4, 0, 0)],
  [(80, .invokevirtual 159, 0, 600), (83, .i2l, 0, 0), (84, .ladd, 0, 0), (85, .lstore_n 1, 0, 0), (86, .iinc 4 1, 1, 0), (89, .goto (-25), 0, 64), (92, .iinc 3 1, 1, 0), (95, .goto (-48), 0, 47)],
  [(98, .iconst 0, 0, 0), (99, .istore_n 3, 0, 0), (100, .iload_n 3, 0, 0), (101, .aload_n 0, 0, 0), (102, .getfield 36, 0, 4), (105, .getfield 190, 0, 404), (108, .if_icmp .ge 47, 0, 155), (111, .ldc2_w 303, 0, 0)],
  [(114, .lload_n 1, 0, 0), (115, .lmul, 0, 0), (116, .aload_n 0, 0, 0), (117, .getfield 36, 0, 4), (120, .iload_n 3, 0, 0), (121, .invokevirtual 226, 0, 900), (124, .bipush 8, 8, 0), (126, .idiv, 0, 0), (127, .i2l, 0, 0)],
  [(128, .ladd, 0, 0), (129, .lstore_n 1, 0, 0), (130, .ldc2_w 303, 0, 0), (133, .lload_n 1, 0, 0), (134, .lmul, 0, 0), (135, .aload_n 0, 0, 0), (136, .getfield 36, 0, 4), (139, .iload_n 3, 0, 0), (140, .invokevirtual 226, 0, 900), (143, .bipush 8, 8, 0)],
  [(145, .irem, 0, 0), (146, .i2l, 0, 0), (147, .ladd, 0, 0), (148, .lstore_n 1, 0, 0), (149, .iinc 3 1, 1, 0), (152, .goto (-52), 0, 100), (155, .iconst 0, 0, 0), (156, .istore_n 3, 0, 0), (157, .iload_n 3, 0, 0), (158, .iconst 3, 3, 0), (159, .if_icmp .ge 25, 0, 184)],
  [(162, .ldc2_w 303, 0, 0), (165, .lload_n 1, 0, 0), (166, .lmul, 0, 0), (167, .aload_n 0, 0, 0), (168, .getfield 21, 0, 2), (171, .iload_n 3, 0, 0), (172, .invokevirtual 124, 0, 220), (175, .i2l, 0, 0)],
  [(176, .ladd, 0, 0), (177, .lstore_n 1, 0, 0), (178, .iinc 3 1, 1, 0), (181, .goto (-24), 0, 157), (184, .aload_n 0, 0, 0), (185, .getfield 18, 0, 1), (188, .aload_n 0, 0, 0), (189, .getfield 14, 0, 0)],
  [(192, .lload_n 1, 0, 0), (193, .invokevirtual 305, 0, 1460), (196, .invokevirtual 305, 0, 1460), (199, .lreturn, 0, 0)]]
def qp_k146 : List (List (Nat × Instr × Int32 × Nat)) := [
  [(0, .lload_n 1, 0, 0), (1, .lstore_n 3, 0, 0), (2, .iconst 0, 0, 0), (3, .istore 5, 0, 0), (5, .iload 5, 0, 0), (7, .aload_n 0, 0, 0), (8, .getfield 19, 0, 101), (11, .arraylength, 0, 0), (12, .if_icmp .ge 59, 0, 71), (15, .ldc2_w 61, 0, 0)],
  [(18, .lload_n 3, 0, 0), (19, .lmul, 0, 0), (20, .aload_n 0, 0, 0), (21, .iload 5, 0, 0), (23, .invokevirtual 30, 0, 220), (26, .i2l, 0, 0), (27, .ladd, 0, 0), (28, .lstore_n 3, 0, 0), (29, .iconst 0, 0, 0), (30, .istore 6, 0, 0)],
  [(32, .iload 6, 0, 0), (34, .aload_n 0, 0, 0), (35, .iload 5, 0, 0), (37, .invokevirtual 30, 0, 220), (40, .if_icmp .ge 25, 0, 65), (43, .ldc2_w 61, 0, 0), (46, .lload_n 3, 0, 0), (47, .lmul, 0, 0)],
  [(48, .aload_n 0, 0, 0), (49, .iload 5, 0, 0), (51, .iload 6, 0, 0), (53, .invokevirtual 58, 0, 230), (56, .i2l, 0, 0), (57, .ladd, 0, 0), (58, .lstore_n 3, 0, 0), (59, .iinc 6 1, 1, 0), (62, .goto (-30), 0, 32)],
  [(65, .iinc 5 1, 1, 0), (68, .goto (-63), 0, 5), (71, .lload_n 3, 0, 0), (72, .lreturn, 0, 0)]]
def qp_k147 : List (List (Nat × Instr × Int32 × Nat)) := [
  [(0, .aload_n 0, 0, 0), (1, .invokespecial 1, 0, 5), (4, .aload_n 0, 0, 0), (5, .bipush 75, 75, 0), (7, .newarray .int, 0, 0), (9, .putfield 7, 0, 1000), (12, .aload_n 0, 0, 0), (13, .sipush 225, 225, 0)],
  [(16, .newarray .int, 0, 0), (18, .putfield 13, 0, 1001), (21, .aload_n 0, 0, 0), (22, .iconst 3, 3, 0), (23, .newarray .boolean, 0, 0), (25, .putfield 16, 0, 1002), (28, .aload_n 0, 0, 0), (29, .sipush 240, 240, 0)],
  [(32, .newarray .int, 0, 0), (34, .putfield 20, 0, 1003), (37, .aload_n 0, 0, 0), (38, .bipush 6, 6, 0), (40, .newarray .int, 0, 0), (42, .putfield 23, 0, 1004), (45, .aload_n 0, 0, 0), (46, .sipush 240, 240, 0)],
  [(49, .newarray .int, 0, 0), (51, .putfield 26, 0, 1005), (54, .aload_n 0, 0, 0), (55, .iconst 4, 4, 0), (56, .newarray .int, 0, 0), (58, .putfield 29, 0, 1006), (61, .aload_n 0, 0, 0), (62, .bipush 6, 6, 0)],
  [(64, .newarray .int, 0, 0), (66, .putfield 32, 0, 1007), (69, .aload_n 0, 0, 0), (70, .lconst 1, 0, 0), (71, .putfield 35, 0, 1011), (74, .aload_n 0, 0, 0), (75, .bipush 40, 40, 0), (77, .newarray .int, 0, 0), (79, .putfield 39, 0, 1012)],
  [(82, .aload_n 0, 0, 0), (83, .bipush 75, 75, 0), (85, .newarray .int, 0, 0), (87, .putfield 42, 0, 1013), (90, .aload_n 0, 0, 0), (91, .bipush 75, 75, 0), (93, .newarray .int, 0, 0), (95, .putfield 45, 0, 1015)],
  [(98, .aload_n 0, 0, 0), (99, .bipush 6, 6, 0), (101, .newarray .int, 0, 0), (103, .putfield 48, 0, 1016), (106, .aload_n 0, 0, 0), (107, .bipush 6, 6, 0), (109, .newarray .int, 0, 0), (111, .putfield 51, 0, 1017)],
  [(114, .aload_n 0, 0, 0), (115, .bipush 6, 6, 0), (117, .newarray .int, 0, 0), (119, .putfield 54, 0, 1018), (122, .aload_n 0, 0, 0), (123, .bipush 6, 6, 0), (125, .newarray .int, 0, 0), (127, .putfield 57, 0, 1019)],
  [(130, .aload_n 0, 0, 0), (131, .iconst 3, 3, 0), (132, .newarray .int, 0, 0), (134, .putfield 60, 0, 1021), (137, .aload_n 0, 0, 0), (138, .bipush 6, 6, 0), (140, .newarray .int, 0, 0), (142, .putfield 63, 0, 1022)],
  [(145, .aload_n 0, 0, 0), (146, .bipush 24, 24, 0), (148, .newarray .int, 0, 0), (150, .putfield 66, 0, 1023), (153, .aload_n 0, 0, 0), (154, .iconst 4, 4, 0), (155, .newarray .int, 0, 0), (157, .putfield 69, 0, 1024)],
  [(160, .aload_n 0, 0, 0), (161, .iconst 4, 4, 0), (162, .newarray .int, 0, 0), (164, .putfield 72, 0, 1025), (167, .aload_n 0, 0, 0), (168, .bipush 6, 6, 0), (170, .newarray .int, 0, 0), (172, .putfield 75, 0, 1026), (175, .iconst 0, 0, 0)],
  [(176, .istore_n 1, 0, 0), (177, .iload_n 1, 0, 0), (178, .bipush 6, 6, 0), (180, .if_icmp .ge 16, 0, 196), (183, .aload_n 0, 0, 0), (184, .getfield 23, 0, 1004), (187, .iload_n 1, 0, 0), (188, .iconst (-1), (-1), 0), (189, .iastore, 0, 0), (190, .iinc 1 1, 1, 0)],
  [(193, .goto (-16), 0, 177), (196, .iconst 0, 0, 0), (197, .istore_n 1, 0, 0), (198, .iload_n 1, 0, 0), (199, .iconst 4, 4, 0), (200, .if_icmp .ge 16, 0, 216), (203, .aload_n 0, 0, 0), (204, .getfield 29, 0, 1006), (207, .iload_n 1, 0, 0)],
  [(208, .iconst (-1), (-1), 0), (209, .iastore, 0, 0), (210, .iinc 1 1, 1, 0), (213, .goto (-15), 0, 198), (216, .return_, 0, 0)]]
def qp_k148 : List (List (Nat × Instr × Int32 × Nat)) := [
  [(0, .iload_n 1, 0, 0), (1, .invokestatic 93, 0, 1491), (4, .ifCond .eq 9, 0, 13), (7, .iload_n 2, 0, 0), (8, .bipush 40, 40, 0), (10, .if_icmp .le 5, 0, 15), (13, .iconst (-1), (-1), 0), (14, .ireturn, 0, 0), (15, .iload_n 2, 0, 0)],
  [(16, .ifCond .ge 9, 0, 25), (19, .aload_n 0, 0, 0), (20, .iconst 5, 5, 0), (21, .invokevirtual 97, 0, 1510), (24, .ireturn, 0, 0), (25, .aload_n 0, 0, 0), (26, .getfield 23, 0, 1004), (29, .iload_n 1, 0, 0), (30, .iload_n 2, 0, 0), (31, .iastore, 0, 0)],
  [(32, .iconst 0, 0, 0), (33, .istore_n 3, 0, 0), (34, .iload_n 3, 0, 0), (35, .iload_n 2, 0, 0), (36, .if_icmp .ge 21, 0, 57), (39, .aload_n 0, 0, 0), (40, .getfield 20, 0, 1003), (43, .bipush 40, 40, 0), (45, .iload_n 1, 0, 0), (46, .imul, 0, 0), (47, .iload_n 3, 0, 0)],
  [(48, .iadd, 0, 0), (49, .iconst 0, 0, 0), (50, .iastore, 0, 0), (51, .iinc 3 1, 1, 0), (54, .goto (-20), 0, 34), (57, .iload_n 2, 0, 0), (58, .ireturn, 0, 0)]]
def qp_k149 : List (List (Nat × Instr × Int32 × Nat)) := [
  [(0, .iload_n 0, 0, 0), (1, .i2l, 0, 0), (2, .lconst 0, 0, 0), (3, .ldc2_w 85, 0, 0), (6, .invokestatic 87, 0, 1501), (9, .ireturn, 0, 0)]]
def qp_k150 : List (List (Nat × Instr × Int32 × Nat)) := [
  [(0, .lload_n 0, 0, 0), (1, .lload_n 2, 0, 0), (2, .lcmp, 0, 0), (3, .ifCond .lt 14, 0, 17), (6, .lload_n 0, 0, 0), (7, .lload 4, 0, 0), (9, .lcmp, 0, 0), (10, .ifCond .gt 7, 0, 17), (13, .iconst 1, 1, 0), (14, .goto 4, 0, 18)],
  [(17, .iconst 0, 0, 0), (18, .ireturn, 0, 0)]]
def qp_k151 : List (List (Nat × Instr × Int32 × Nat)) := [
  [(0, .aload_n 0, 0, 0), (1, .iload_n 1, 0, 0), (2, .putfield 78, 0, 1008), (5, .aload_n 0, 0, 0), (6, .getfield 32, 0, 1007), (9, .iload_n 1, 0, 0), (10, .dup2, 0, 0), (11, .iaload, 0, 0), (12, .iconst 1, 1, 0), (13, .iadd, 0, 0), (14, .iastore, 0, 0), (15, .bipush (-3), (-3), 0)],
  [(17, .ireturn, 0, 0)]]
def qp_k152 : List (List (Nat × Instr × Int32 × Nat)) := [
  [(0, .aload_n 0, 0, 0), (1, .iload_n 1, 0, 0), (2, .iload_n 2, 0, 0), (3, .invokevirtual 101, 0, 1530), (6, .istore 4, 0, 0), (8, .iload 4, 0, 0), (10, .iconst 1, 1, 0), (11, .if_icmp .ne 15, 0, 26), (14, .aload_n 0, 0, 0), (15, .getfield 20, 0, 1003)],
  [(18, .bipush 40, 40, 0), (20, .iload_n 1, 0, 0), (21, .imul, 0, 0), (22, .iload_n 2, 0, 0), (23, .iadd, 0, 0), (24, .iload_n 3, 0, 0), (25, .iastore, 0, 0), (26, .iload 4, 0, 0), (28, .ireturn, 0, 0)]]
def qp_k153 : List (List (Nat × Instr × Int32 × Nat)) := [
  [(0, .iload_n 1, 0, 0), (1, .invokestatic 93, 0, 1491), (4, .ifCond .ne 5, 0, 9), (7, .iconst (-1), (-1), 0), (8, .ireturn, 0, 0), (9, .aload_n 0, 0, 0), (10, .getfield 23, 0, 1004), (13, .iload_n 1, 0, 0), (14, .iaload, 0, 0), (15, .ifCond .ge 9, 0, 24)],
  [(18, .aload_n 0, 0, 0), (19, .iconst 1, 1, 0), (20, .invokevirtual 97, 0, 1510), (23, .ireturn, 0, 0), (24, .iload_n 2, 0, 0), (25, .i2l, 0, 0), (26, .lconst 0, 0, 0), (27, .aload_n 0, 0, 0), (28, .getfield 23, 0, 1004), (31, .iload_n 1, 0, 0)],
  [(32, .iaload, 0, 0), (33, .iconst 1, 1, 0), (34, .isub, 0, 0), (35, .i2l, 0, 0), (36, .invokestatic 87, 0, 1501), (39, .ifCond .eq 21, 0, 60), (42, .aload_n 0, 0, 0), (43, .aload_n 0, 0, 0), (44, .getfield 20, 0, 1003), (47, .bipush 40, 40, 0)],
  [(49, .iload_n 1, 0, 0), (50, .imul, 0, 0), (51, .iload_n 2, 0, 0), (52, .iadd, 0, 0), (53, .iaload, 0, 0), (54, .invokevirtual 105, 0, 1540), (57, .goto 8, 0, 65), (60, .aload_n 0, 0, 0), (61, .iconst 2, 2, 0), (62, .invokevirtual 97, 0, 1510)],
  [(65, .ireturn, 0, 0)]]
def qp_k154 : List (List (Nat × Instr × Int32 × Nat)) := [
  [(0, .aload_n 0, 0, 0), (1, .iload_n 1, 0, 0), (2, .putfield 82, 0, 1009), (5, .iconst 1, 1, 0), (6, .ireturn, 0, 0)]]
def qp_k155 : List (List (Nat × Instr × Int32 × Nat)) := [
  [(0, .iload_n 1, 0, 0), (1, .invokestatic 93, 0, 1491), (4, .ifCond .ne 5, 0, 9), (7, .iconst (-1), (-1), 0), (8, .ireturn, 0, 0), (9, .aload_n 0, 0, 0), (10, .getfield 23, 0, 1004), (13, .iload_n 1, 0, 0), (14, .iaload, 0, 0), (15, .ifCond .ge 9, 0, 24)],
  [(18, .aload_n 0, 0, 0), (19, .iconst 1, 1, 0), (20, .invokevirtual 97, 0, 1510), (23, .ireturn, 0, 0), (24, .aload_n 0, 0, 0), (25, .getfield 23, 0, 1004), (28, .iload_n 1, 0, 0), (29, .iconst (-1), (-1), 0), (30, .iastore, 0, 0), (31, .iconst 1, 1, 0)],
  [(32, .ireturn, 0, 0)]]
def qp_k156 : List (List (Nat × Instr × Int32 × Nat)) := [
  [(0, .iload_n 1, 0, 0), (1, .invokestatic 93, 0, 1491), (4, .ifCond .eq 10, 0, 14), (7, .iload_n 3, 0, 0), (8, .invokestatic 93, 0, 1491), (11, .ifCond .ne 5, 0, 16), (14, .iconst (-1), (-1), 0), (15, .ireturn, 0, 0)],
  [(16, .iload 5, 0, 0), (18, .ifCond .ge 9, 0, 27), (21, .aload_n 0, 0, 0), (22, .iconst 5, 5, 0), (23, .invokevirtual 97, 0, 1510), (26, .ireturn, 0, 0), (27, .aload_n 0, 0, 0), (28, .getfield 23, 0, 1004), (31, .iload_n 1, 0, 0)],
  [(32, .iaload, 0, 0), (33, .ifCond .lt 12, 0, 45), (36, .aload_n 0, 0, 0), (37, .getfield 23, 0, 1004), (40, .iload_n 3, 0, 0), (41, .iaload, 0, 0), (42, .ifCond .ge 9, 0, 51), (45, .aload_n 0, 0, 0), (46, .iconst 1, 1, 0), (47, .invokevirtual 97, 0, 1510)],
  [(50, .ireturn, 0, 0), (51, .iload_n 2, 0, 0), (52, .i2l, 0, 0), (53, .lconst 0, 0, 0), (54, .aload_n 0, 0, 0), (55, .getfield 23, 0, 1004), (58, .iload_n 1, 0, 0), (59, .iaload, 0, 0), (60, .i2l, 0, 0), (61, .iload 5, 0, 0), (63, .i2l, 0, 0)],
  [(64, .lsub, 0, 0), (65, .invokestatic 87, 0, 1501), (68, .ifCond .eq 24, 0, 92), (71, .iload 4, 0, 0), (73, .i2l, 0, 0), (74, .lconst 0, 0, 0), (75, .aload_n 0, 0, 0), (76, .getfield 23, 0, 1004), (79, .iload_n 3, 0, 0)],
  [(80, .iaload, 0, 0), (81, .i2l, 0, 0), (82, .iload 5, 0, 0), (84, .i2l, 0, 0), (85, .lsub, 0, 0), (86, .invokestatic 87, 0, 1501), (89, .ifCond .ne 9, 0, 98), (92, .aload_n 0, 0, 0), (93, .iconst 2, 2, 0), (94, .invokevirtual 97, 0, 1510)],
  [(97, .ireturn, 0, 0), (98, .iconst 0, 0, 0), (99, .istore 6, 0, 0), (101, .iload 6, 0, 0), (103, .iload 5, 0, 0), (105, .if_icmp .ge 30, 0, 135), (108, .aload_n 0, 0, 0), (109, .getfield 39, 0, 1012)],
  [(112, .iload 6, 0, 0), (114, .aload_n 0, 0, 0), (115, .getfield 20, 0, 1003), (118, .bipush 40, 40, 0), (120, .iload_n 1, 0, 0), (121, .imul, 0, 0), (122, .iload_n 2, 0, 0), (123, .iadd, 0, 0), (124, .iload 6, 0, 0), (126, .iadd, 0, 0), (127, .iaload, 0, 0)],
  [(128, .iastore, 0, 0), (129, .iinc 6 1, 1, 0), (132, .goto (-31), 0, 101), (135, .iconst 0, 0, 0), (136, .istore 6, 0, 0), (138, .iload 6, 0, 0), (140, .iload 5, 0, 0), (142, .if_icmp .ge 31, 0, 173)],
  [(145, .aload_n 0, 0, 0), (146, .getfield 20, 0, 1003), (149, .bipush 40, 40, 0), (151, .iload_n 3, 0, 0), (152, .imul, 0, 0), (153, .iload 4, 0, 0), (155, .iadd, 0, 0), (156, .iload 6, 0, 0), (158, .iadd, 0, 0), (159, .aload_n 0, 0, 0)],
  [(160, .getfield 39, 0, 1012), (163, .iload 6, 0, 0), (165, .iaload, 0, 0), (166, .iastore, 0, 0), (167, .iinc 6 1, 1, 0), (170, .goto (-32), 0, 138), (173, .iconst 1, 1, 0), (174, .ireturn, 0, 0)]]
def qp_k157 : List (List (Nat × Instr × Int32 × Nat)) := [
  [(0, .iload_n 1, 0, 0), (1, .invokestatic 93, 0, 1491), (4, .ifCond .ne 5, 0, 9), (7, .iconst (-1), (-1), 0), (8, .ireturn, 0, 0), (9, .aload_n 0, 0, 0), (10, .getfield 23, 0, 1004), (13, .iload_n 1, 0, 0), (14, .iaload, 0, 0), (15, .ifCond .ge 9, 0, 24)],
  [(18, .aload_n 0, 0, 0), (19, .iconst 1, 1, 0), (20, .invokevirtual 97, 0, 1510), (23, .ireturn, 0, 0), (24, .aload_n 0, 0, 0), (25, .getfield 23, 0, 1004), (28, .iload_n 1, 0, 0), (29, .iaload, 0, 0), (30, .ifCond .ne 9, 0, 39)],
  [(33, .aload_n 0, 0, 0), (34, .iconst 4, 4, 0), (35, .invokevirtual 97, 0, 1510), (38, .ireturn, 0, 0), (39, .lconst 0, 0, 0), (40, .lstore_n 2, 0, 0), (41, .iconst 0, 0, 0), (42, .istore 4, 0, 0), (44, .iload 4, 0, 0), (46, .aload_n 0, 0, 0), (47, .getfield 23, 0, 1004)],
  [(50, .iload_n 1, 0, 0), (51, .iaload, 0, 0), (52, .if_icmp .ge 25, 0, 77), (55, .lload_n 2, 0, 0), (56, .aload_n 0, 0, 0), (57, .getfield 20, 0, 1003), (60, .bipush 40, 40, 0), (62, .iload_n 1, 0, 0), (63, .imul, 0, 0)],
  [(64, .iload 4, 0, 0), (66, .iadd, 0, 0), (67, .iaload, 0, 0), (68, .i2l, 0, 0), (69, .ladd, 0, 0), (70, .lstore_n 2, 0, 0), (71, .iinc 4 1, 1, 0), (74, .goto (-30), 0, 44), (77, .aload_n 0, 0, 0), (78, .lload_n 2, 0, 0), (79, .aload_n 0, 0, 0)],
  [(80, .getfield 23, 0, 1004), (83, .iload_n 1, 0, 0), (84, .iaload, 0, 0), (85, .i2l, 0, 0), (86, .ldiv, 0, 0), (87, .l2i, 0, 0), (88, .invokevirtual 105, 0, 1540), (91, .ireturn, 0, 0)]]
def qp_k158 : List (List (Nat × Instr × Int32 × Nat)) := [
  [(0, .iload_n 1, 0, 0), (1, .invokestatic 108, 0, 1591), (4, .ifCond .eq 9, 0, 13), (7, .iload_n 2, 0, 0), (8, .bipush 60, 60, 0), (10, .if_icmp .le 5, 0, 15), (13, .iconst (-1), (-1), 0), (14, .ireturn, 0, 0), (15, .iload_n 2, 0, 0)],
  [(16, .ifCond .ge 9, 0, 25), (19, .aload_n 0, 0, 0), (20, .iconst 5, 5, 0), (21, .invokevirtual 97, 0, 1510), (24, .ireturn, 0, 0), (25, .aload_n 0, 0, 0), (26, .getfield 29, 0, 1006), (29, .iload_n 1, 0, 0), (30, .iload_n 2, 0, 0), (31, .iastore, 0, 0)],
  [(32, .iconst 0, 0, 0), (33, .istore_n 3, 0, 0), (34, .iload_n 3, 0, 0), (35, .iload_n 2, 0, 0), (36, .if_icmp .ge 22, 0, 58), (39, .aload_n 0, 0, 0), (40, .getfield 26, 0, 1005), (43, .bipush 60, 60, 0), (45, .iload_n 1, 0, 0), (46, .imul, 0, 0), (47, .iload_n 3, 0, 0)],
  [(48, .iadd, 0, 0), (49, .bipush 32, 32, 0), (51, .iastore, 0, 0), (52, .iinc 3 1, 1, 0), (55, .goto (-21), 0, 34), (58, .iload_n 2, 0, 0), (59, .ireturn, 0, 0)]]
def qp_k159 : List (List (Nat × Instr × Int32 × Nat)) := [
  [(0, .iload_n 0, 0, 0), (1, .i2l, 0, 0), (2, .lconst 0, 0, 0), (3, .ldc2_w 91, 0, 0), (6, .invokestatic 87, 0, 1501), (9, .ireturn, 0, 0)]]
def qp_k160 : List (List (Nat × Instr × Int32 × Nat)) := [
  [(0, .iload_n 1, 0, 0), (1, .invokestatic 108, 0, 1591), (4, .ifCond .ne 5, 0, 9), (7, .iconst (-1), (-1), 0), (8, .ireturn, 0, 0), (9, .aload_n 0, 0, 0), (10, .getfield 29, 0, 1006), (13, .iload_n 1, 0, 0), (14, .iaload, 0, 0), (15, .ifCond .ge 9, 0, 24)],
  [(18, .aload_n 0, 0, 0), (19, .iconst 1, 1, 0), (20, .invokevirtual 97, 0, 1510), (23, .ireturn, 0, 0), (24, .iload_n 2, 0, 0), (25, .i2l, 0, 0), (26, .lconst 0, 0, 0), (27, .aload_n 0, 0, 0), (28, .getfield 29, 0, 1006), (31, .iload_n 1, 0, 0)],
  [(32, .iaload, 0, 0), (33, .iconst 1, 1, 0), (34, .isub, 0, 0), (35, .i2l, 0, 0), (36, .invokestatic 87, 0, 1501), (39, .ifCond .ne 9, 0, 48), (42, .aload_n 0, 0, 0), (43, .iconst 2, 2, 0), (44, .invokevirtual 97, 0, 1510), (47, .ireturn, 0, 0)],
  [(48, .aload_n 0, 0, 0), (49, .getfield 26, 0, 1005), (52, .bipush 60, 60, 0), (54, .iload_n 1, 0, 0), (55, .imul, 0, 0), (56, .iload_n 2, 0, 0), (57, .iadd, 0, 0), (58, .iaload, 0, 0), (59, .istore 4, 0, 0), (61, .iload_n 3, 0, 0), (62, .sipush 255, 255, 0)],
  [(65, .iand, 0, 0), (66, .istore 5, 0, 0), (68, .aload_n 0, 0, 0), (69, .getfield 26, 0, 1005), (72, .bipush 60, 60, 0), (74, .iload_n 1, 0, 0), (75, .imul, 0, 0), (76, .iload_n 2, 0, 0), (77, .iadd, 0, 0), (78, .iload 5, 0, 0)],
  [(80, .bipush 127, 127, 0), (82, .if_icmp .le 12, 0, 94), (85, .iload 5, 0, 0), (87, .sipush 256, 256, 0), (90, .isub, 0, 0), (91, .goto 5, 0, 96), (94, .iload 5, 0, 0)],
  [(96, .iastore, 0, 0), (97, .iload 4, 0, 0), (99, .sipush 1000, 1000, 0), (102, .iadd, 0, 0), (103, .ireturn, 0, 0)]]
def qp_k161 : List (List (Nat × Instr × Int32 × Nat)) := [
  [(0, .iload_n 1, 0, 0), (1, .invokestatic 108, 0, 1591), (4, .ifCond .ne 5, 0, 9), (7, .iconst (-1), (-1), 0), (8, .ireturn, 0, 0), (9, .aload_n 0, 0, 0), (10, .getfield 29, 0, 1006), (13, .iload_n 1, 0, 0), (14, .iaload, 0, 0), (15, .ifCond .ge 11, 0, 26)],
  [(18, .aload_n 0, 0, 0), (19, .iconst 1, 1, 0), (20, .invokevirtual 97, 0, 1510), (23, .goto 8, 0, 31), (26, .aload_n 0, 0, 0), (27, .iload_n 1, 0, 0), (28, .invokevirtual 136, 0, 1620), (31, .ireturn, 0, 0)]]
def qp_k162 : List (List (Nat × Instr × Int32 × Nat)) := [
  [(0, .aload_n 0, 0, 0), (1, .iconst 0, 0, 0), (2, .putfield 111, 0, 1014), (5, .aload_n 0, 0, 0), (6, .getfield 42, 0, 1013), (9, .iconst 0, 0, 0), (10, .iconst 0, 0, 0), (11, .iastore, 0, 0), (12, .aload_n 0, 0, 0), (13, .iload_n 1, 0, 0), (14, .invokevirtual 130, 0, 1630)],
  [(17, .istore_n 2, 0, 0), (18, .iload_n 2, 0, 0), (19, .ifCond .eq 8, 0, 27), (22, .aload_n 0, 0, 0), (23, .iload_n 1, 0, 0), (24, .invokevirtual 119, 0, 1640), (27, .iload_n 2, 0, 0), (28, .ifCond .eq 34, 0, 62), (31, .aload_n 0, 0, 0)],
  [(32, .getfield 111, 0, 1014), (35, .aload_n 0, 0, 0), (36, .getfield 29, 0, 1006), (39, .iload_n 1, 0, 0), (40, .iaload, 0, 0), (41, .if_icmp .ge 21, 0, 62), (44, .aload_n 0, 0, 0), (45, .iload_n 1, 0, 0), (46, .invokevirtual 133, 0, 1670)],
  [(49, .istore_n 2, 0, 0), (50, .iload_n 2, 0, 0), (51, .ifCond .eq (-24), 0, 27), (54, .aload_n 0, 0, 0), (55, .iload_n 1, 0, 0), (56, .invokevirtual 119, 0, 1640), (59, .goto (-32), 0, 27), (62, .iload_n 2, 0, 0), (63, .ifCond .eq 17, 0, 80)],
  [(66, .aload_n 0, 0, 0), (67, .getfield 42, 0, 1013), (70, .iconst 0, 0, 0), (71, .iaload, 0, 0), (72, .ifCond .le 8, 0, 80), (75, .bipush (-9), (-9), 0), (77, .goto 7, 0, 84)],
  [(80, .aload_n 0, 0, 0), (81, .getfield 111, 0, 1014), (84, .ireturn, 0, 0)]]
def qp_k163 : List (List (Nat × Instr × Int32 × Nat)) := [
  [(0, .aload_n 0, 0, 0), (1, .iload_n 1, 0, 0), (2, .invokevirtual 119, 0, 1640), (5, .aload_n 0, 0, 0), (6, .iload_n 1, 0, 0), (7, .invokevirtual 114, 0, 1650), (10, .bipush 113, 113, 0), (12, .if_icmp .eq 5, 0, 17), (15, .iconst 0, 0, 0)],
  [(16, .ireturn, 0, 0), (17, .aload_n 0, 0, 0), (18, .dup, 0, 0), (19, .getfield 111, 0, 1014), (22, .iconst 1, 1, 0), (23, .iadd, 0, 0), (24, .putfield 111, 0, 1014), (27, .aload_n 0, 0, 0), (28, .getfield 111, 0, 1014), (31, .istore_n 2, 0, 0)],
  [(32, .aload_n 0, 0, 0), (33, .iload_n 1, 0, 0), (34, .iconst 1, 1, 0), (35, .iconst 0, 0, 0), (36, .invokevirtual 123, 0, 1660), (39, .ifCond .ne 5, 0, 44), (42, .iconst 0, 0, 0), (43, .ireturn, 0, 0), (44, .aload_n 0, 0, 0), (45, .getfield 42, 0, 1013)],
  [(48, .iconst 1, 1, 0), (49, .iaload, 0, 0), (50, .istore_n 3, 0, 0), (51, .aload_n 0, 0, 0), (52, .iload_n 1, 0, 0), (53, .iconst 1, 1, 0), (54, .iconst 0, 0, 0), (55, .invokevirtual 123, 0, 1660), (58, .ifCond .ne 5, 0, 63), (61, .iconst 0, 0, 0), (62, .ireturn, 0, 0), (63, .aload_n 0, 0, 0)],
  [(64, .getfield 42, 0, 1013), (67, .iconst 1, 1, 0), (68, .dup2, 0, 0), (69, .iaload, 0, 0), (70, .bipush 10, 10, 0), (72, .iload_n 3, 0, 0), (73, .imul, 0, 0), (74, .iadd, 0, 0), (75, .iastore, 0, 0), (76, .aload_n 0, 0, 0), (77, .aload_n 0, 0, 0), (78, .getfield 42, 0, 1013)],
  [(81, .iconst 1, 1, 0), (82, .iaload, 0, 0), (83, .bipush 20, 20, 0), (85, .if_icmp .le 7, 0, 92), (88, .iload_n 2, 0, 0), (89, .goto 7, 0, 96), (92, .aload_n 0, 0, 0), (93, .getfield 111, 0, 1014)],
  [(96, .putfield 111, 0, 1014), (99, .aload_n 0, 0, 0), (100, .getfield 42, 0, 1013), (103, .iconst 1, 1, 0), (104, .iaload, 0, 0), (105, .bipush 20, 20, 0), (107, .if_icmp .gt 7, 0, 114), (110, .iconst 1, 1, 0), (111, .goto 4, 0, 115)],
  [(114, .iconst 0, 0, 0), (115, .ireturn, 0, 0)]]
def qp_k164 : List (List (Nat × Instr × Int32 × Nat)) := [
  [(0, .aload_n 0, 0, 0), (1, .iload_n 1, 0, 0), (2, .invokevirtual 114, 0, 1650), (5, .bipush 32, 32, 0), (7, .if_icmp .ne 16, 0, 23), (10, .aload_n 0, 0, 0), (11, .dup, 0, 0), (12, .getfield 111, 0, 1014), (15, .iconst 1, 1, 0)],
  [(16, .iadd, 0, 0), (17, .putfield 111, 0, 1014), (20, .goto (-20), 0, 0), (23, .return_, 0, 0)]]
def qp_k165 : List (List (Nat × Instr × Int32 × Nat)) := [
  [(0, .aload_n 0, 0, 0), (1, .getfield 111, 0, 1014), (4, .aload_n 0, 0, 0), (5, .getfield 29, 0, 1006), (8, .iload_n 1, 0, 0), (9, .iaload, 0, 0), (10, .if_icmp .ge 20, 0, 30), (13, .aload_n 0, 0, 0), (14, .getfield 26, 0, 1005)],
  [(17, .bipush 60, 60, 0), (19, .iload_n 1, 0, 0), (20, .imul, 0, 0), (21, .aload_n 0, 0, 0), (22, .getfield 111, 0, 1014), (25, .iadd, 0, 0), (26, .iaload, 0, 0), (27, .goto 5, 0, 32), (30, .bipush (-9), (-9), 0)],
  [(32, .ireturn, 0, 0)]]
def qp_k166 : List (List (Nat × Instr × Int32 × Nat)) := [
  [(0, .aload_n 0, 0, 0), (1, .iload_n 1, 0, 0), (2, .invokevirtual 114, 0, 1650), (5, .istore 4, 0, 0), (7, .iload 4, 0, 0), (9, .i2l, 0, 0), (10, .bipush 48, 48, 0), (12, .iload_n 3, 0, 0), (13, .iadd, 0, 0), (14, .i2l, 0, 0), (15, .ldc2_w 117, 0, 0)],
  [(18, .invokestatic 87, 0, 1501), (21, .ifCond .ne 5, 0, 26), (24, .iconst 0, 0, 0), (25, .ireturn, 0, 0), (26, .aload_n 0, 0, 0), (27, .getfield 42, 0, 1013), (30, .iload_n 2, 0, 0), (31, .iload 4, 0, 0)],
  [(33, .bipush 48, 48, 0), (35, .isub, 0, 0), (36, .iastore, 0, 0), (37, .aload_n 0, 0, 0), (38, .dup, 0, 0), (39, .getfield 111, 0, 1014), (42, .iconst 1, 1, 0), (43, .iadd, 0, 0), (44, .putfield 111, 0, 1014), (47, .iconst 1, 1, 0)],
  [(48, .ireturn, 0, 0)]]
def qp_k167 : List (List (Nat × Instr × Int32 × Nat)) := [
  [(0, .aload_n 0, 0, 0), (1, .getfield 42, 0, 1013), (4, .iconst 0, 0, 0), (5, .iaload, 0, 0), (6, .istore_n 2, 0, 0), (7, .aload_n 0, 0, 0), (8, .iload_n 1, 0, 0), (9, .invokevirtual 114, 0, 1650), (12, .invokestatic 127, 0, 1681), (15, .istore_n 3, 0, 0)],
  [(16, .iload_n 3, 0, 0), (17, .bipush (-9), (-9), 0), (19, .if_icmp .eq 9, 0, 28), (22, .iload_n 2, 0, 0), (23, .bipush 6, 6, 0), (25, .if_icmp .ne 5, 0, 30), (28, .iconst 0, 0, 0), (29, .ireturn, 0, 0), (30, .aload_n 0, 0, 0), (31, .getfield 42, 0, 1013)],
  [(34, .iconst 2, 2, 0), (35, .iload_n 2, 0, 0), (36, .iadd, 0, 0), (37, .iload_n 3, 0, 0), (38, .iastore, 0, 0), (39, .aload_n 0, 0, 0), (40, .dup, 0, 0), (41, .getfield 111, 0, 1014), (44, .iconst 1, 1, 0), (45, .iadd, 0, 0), (46, .putfield 111, 0, 1014)],
  [(49, .aload_n 0, 0, 0), (50, .iload_n 1, 0, 0), (51, .bipush 8, 8, 0), (53, .iload_n 2, 0, 0), (54, .iadd, 0, 0), (55, .iconst 1, 1, 0), (56, .invokevirtual 123, 0, 1660), (59, .ifCond .ne 5, 0, 64), (62, .iconst 0, 0, 0), (63, .ireturn, 0, 0)],
  [(64, .aload_n 0, 0, 0), (65, .getfield 42, 0, 1013), (68, .iconst 0, 0, 0), (69, .dup2, 0, 0), (70, .iaload, 0, 0), (71, .iconst 1, 1, 0), (72, .iadd, 0, 0), (73, .iastore, 0, 0), (74, .iconst 1, 1, 0), (75, .ireturn, 0, 0)]]
def qp_k168 : List (List (Nat × Instr × Int32 × Nat)) := [
  [(0, .iload_n 0, 0, 0), (1, .bipush 112, 112, 0), (3, .if_icmp .ne 7, 0, 10), (6, .iconst 0, 0, 0), (7, .goto 55, 0, 62), (10, .iload_n 0, 0, 0), (11, .bipush 115, 115, 0), (13, .if_icmp .ne 7, 0, 20)],
  [(16, .iconst 1, 1, 0), (17, .goto 45, 0, 62), (20, .iload_n 0, 0, 0), (21, .bipush 99, 99, 0), (23, .if_icmp .ne 7, 0, 30), (26, .iconst 2, 2, 0), (27, .goto 35, 0, 62), (30, .iload_n 0, 0, 0), (31, .bipush 117, 117, 0)],
  [(33, .if_icmp .ne 7, 0, 40), (36, .iconst 3, 3, 0), (37, .goto 25, 0, 62), (40, .iload_n 0, 0, 0), (41, .bipush 103, 103, 0), (43, .if_icmp .ne 7, 0, 50), (46, .iconst 4, 4, 0), (47, .goto 15, 0, 62)],
  [(50, .iload_n 0, 0, 0), (51, .bipush 111, 111, 0), (53, .if_icmp .ne 7, 0, 60), (56, .iconst 5, 5, 0), (57, .goto 5, 0, 62), (60, .bipush (-9), (-9), 0), (62, .ireturn, 0, 0)]]
def qp_k169 : List (List (Nat × Instr × Int32 × Nat)) := [
  [(0, .iload_n 1, 0, 0), (1, .invokestatic 108, 0, 1591), (4, .ifCond .ne 5, 0, 9), (7, .iconst (-1), (-1), 0), (8, .ireturn, 0, 0), (9, .aload_n 0, 0, 0), (10, .getfield 29, 0, 1006), (13, .iload_n 1, 0, 0), (14, .iaload, 0, 0), (15, .ifCond .ge 9, 0, 24)],
  [(18, .aload_n 0, 0, 0), (19, .iconst 1, 1, 0), (20, .invokevirtual 97, 0, 1510), (23, .ireturn, 0, 0), (24, .aload_n 0, 0, 0), (25, .iload_n 1, 0, 0), (26, .invokevirtual 136, 0, 1620), (29, .bipush (-9), (-9), 0), (31, .if_icmp .eq 6, 0, 37)],
  [(34, .bipush (-4), (-4), 0), (36, .ireturn, 0, 0), (37, .iconst 0, 0, 0), (38, .istore_n 2, 0, 0), (39, .iload_n 2, 0, 0), (40, .bipush 14, 14, 0), (42, .if_icmp .ge 21, 0, 63), (45, .aload_n 0, 0, 0), (46, .getfield 7, 0, 1000)],
  [(49, .iload_n 2, 0, 0), (50, .aload_n 0, 0, 0), (51, .getfield 42, 0, 1013), (54, .iload_n 2, 0, 0), (55, .iaload, 0, 0), (56, .iastore, 0, 0), (57, .iinc 2 1, 1, 0), (60, .goto (-21), 0, 39), (63, .aload_n 0, 0, 0)],
  [(64, .getfield 7, 0, 1000), (67, .bipush 14, 14, 0), (69, .iconst 0, 0, 0), (70, .iastore, 0, 0), (71, .aload_n 0, 0, 0), (72, .getfield 7, 0, 1000), (75, .invokestatic 139, 0, 1701), (78, .iconst 0, 0, 0), (79, .istore_n 2, 0, 0)],
  [(80, .iload_n 2, 0, 0), (81, .iconst 3, 3, 0), (82, .if_icmp .ge 16, 0, 98), (85, .aload_n 0, 0, 0), (86, .getfield 16, 0, 1002), (89, .iload_n 2, 0, 0), (90, .iconst 0, 0, 0), (91, .bastore, 0, 0), (92, .iinc 2 1, 1, 0), (95, .goto (-15), 0, 80)],
  [(98, .aload_n 0, 0, 0), (99, .getfield 7, 0, 1000), (102, .iconst 0, 0, 0), (103, .iaload, 0, 0), (104, .ireturn, 0, 0)]]
def qp_k170 : List (List (Nat × Instr × Int32 × Nat)) := [
  [(0, .aload_n 0, 0, 0), (1, .bipush 55, 55, 0), (3, .aload_n 0, 0, 0), (4, .iconst 1, 1, 0), (5, .iaload, 0, 0), (6, .iastore, 0, 0), (7, .aload_n 0, 0, 0), (8, .bipush 56, 56, 0), (10, .iconst 0, 0, 0), (11, .iastore, 0, 0), (12, .iconst 0, 0, 0), (13, .istore_n 1, 0, 0), (14, .iload_n 1, 0, 0), (15, .bipush 6, 6, 0)],
  [(17, .if_icmp .ge 16, 0, 33), (20, .aload_n 0, 0, 0), (21, .bipush 69, 69, 0), (23, .iload_n 1, 0, 0), (24, .iadd, 0, 0), (25, .iload_n 1, 0, 0), (26, .iastore, 0, 0), (27, .iinc 1 1, 1, 0), (30, .goto (-16), 0, 14)],
  [(33, .return_, 0, 0)]]
def qp_k171 : List (List (Nat × Instr × Int32 × Nat)) := [
  [(0, .aload_n 0, 0, 0), (1, .iload_n 1, 0, 0), (2, .invokevirtual 184, 0, 1720), (5, .ifCond .eq 28, 0, 33), (8, .iload_n 2, 0, 0), (9, .i2l, 0, 0), (10, .lconst 0, 0, 0), (11, .ldc2_w 187, 0, 0), (14, .invokestatic 87, 0, 1501)],
  [(17, .ifCond .eq 16, 0, 33), (20, .aload_n 0, 0, 0), (21, .aload_n 0, 0, 0), (22, .iload_n 1, 0, 0), (23, .iload_n 2, 0, 0), (24, .invokevirtual 189, 0, 1730), (27, .invokevirtual 105, 0, 1540), (30, .goto 4, 0, 34)],
  [(33, .iconst (-1), (-1), 0), (34, .ireturn, 0, 0)]]
def qp_k172 : List (List (Nat × Instr × Int32 × Nat)) := [
  [(0, .iload_n 1, 0, 0), (1, .i2l, 0, 0), (2, .lconst 0, 0, 0), (3, .aload_n 0, 0, 0), (4, .getfield 7, 0, 1000), (7, .iconst 0, 0, 0), (8, .iaload, 0, 0), (9, .iconst 1, 1, 0), (10, .isub, 0, 0), (11, .i2l, 0, 0), (12, .invokestatic 87, 0, 1501), (15, .ireturn, 0, 0)]]
def qp_k173 : List (List (Nat × Instr × Int32 × Nat)) := [
  [(0, .aload_n 0, 0, 0), (1, .invokevirtual 178, 0, 1740), (4, .iload_n 2, 0, 0), (5, .tableswitch 85 0 5 #[39, 48, 58, 64, 71, 78], 0, 39)],
  [],
  [(44, .aload_n 0, 0, 0), (45, .getfield 7, 0, 1000)],
  [(48, .iconst 2, 2, 0), (49, .iload_n 1, 0, 0), (50, .iadd, 0, 0), (51, .iaload, 0, 0), (52, .ireturn, 0, 0), (53, .aload_n 0, 0, 0), (54, .getfield 7, 0, 1000), (57, .bipush 8, 8, 0), (59, .iload_n 1, 0, 0), (60, .iadd, 0, 0), (61, .iaload, 0, 0), (62, .ireturn, 0, 0), (63, .aload_n 0, 0, 0)],
  [(64, .iload_n 1, 0, 0), (65, .invokevirtual 175, 0, 1780), (68, .ireturn, 0, 0), (69, .aload_n 0, 0, 0), (70, .getfield 57, 0, 1019), (73, .iload_n 1, 0, 0), (74, .iaload, 0, 0), (75, .ireturn, 0, 0), (76, .aload_n 0, 0, 0), (77, .getfield 48, 0, 1016)],
  [(80, .iload_n 1, 0, 0), (81, .iaload, 0, 0), (82, .ireturn, 0, 0), (83, .aload_n 0, 0, 0), (84, .getfield 51, 0, 1017), (87, .iload_n 1, 0, 0), (88, .iaload, 0, 0), (89, .ireturn, 0, 0), (90, .aload_n 0, 0, 0), (91, .iload_n 1, 0, 0), (92, .invokevirtual 181, 0, 1800), (95, .ireturn, 0, 0)]]
def qp_k174 : List (List (Nat × Instr × Int32 × Nat)) := [
  [(0, .aload_n 0, 0, 0), (1, .aload_n 0, 0, 0), (2, .getfield 7, 0, 1000), (5, .bipush 69, 69, 0), (7, .aload_n 0, 0, 0), (8, .getfield 7, 0, 1000), (11, .iconst 0, 0, 0), (12, .iaload, 0, 0), (13, .invokevirtual 171, 0, 1750)],
  [(16, .return_, 0, 0)]]
def qp_k175 : List (List (Nat × Instr × Int32 × Nat)) := [
  [(0, .iconst 0, 0, 0), (1, .istore 4, 0, 0), (3, .aload_n 0, 0, 0), (4, .aload_n 0, 0, 0), (5, .getfield 7, 0, 1000), (8, .bipush 55, 55, 0), (10, .iaload, 0, 0), (11, .putfield 161, 0, 1020), (14, .iconst 0, 0, 0), (15, .istore 5, 0, 0)],
  [(17, .iload 5, 0, 0), (19, .iconst 2, 2, 0), (20, .if_icmp .ge 182, 0, 202), (23, .iconst 0, 0, 0), (24, .istore 6, 0, 0), (26, .iload 6, 0, 0), (28, .iload_n 3, 0, 0), (29, .if_icmp .ge 167, 0, 196)],
  [(32, .aload_n 1, 0, 0), (33, .iload_n 2, 0, 0), (34, .iload 6, 0, 0), (36, .iadd, 0, 0), (37, .iaload, 0, 0), (38, .istore 7, 0, 0), (40, .aload_n 0, 0, 0), (41, .getfield 7, 0, 1000), (44, .iconst 2, 2, 0), (45, .iload 7, 0, 0), (47, .iadd, 0, 0)],
  [(48, .iaload, 0, 0), (49, .invokestatic 164, 0, 1761), (52, .iload 5, 0, 0), (54, .ifCond .ne 7, 0, 61), (57, .iconst 1, 1, 0), (58, .goto 4, 0, 62), (61, .iconst 0, 0, 0), (62, .if_icmp .ne 128, 0, 190)],
  [(65, .aload_n 0, 0, 0), (66, .getfield 57, 0, 1019), (69, .iload 7, 0, 0), (71, .aload_n 0, 0, 0), (72, .getfield 7, 0, 1000), (75, .iconst 2, 2, 0), (76, .iload 7, 0, 0), (78, .iadd, 0, 0), (79, .iaload, 0, 0)],
  [(80, .iload 6, 0, 0), (82, .iload_n 3, 0, 0), (83, .iconst 1, 1, 0), (84, .isub, 0, 0), (85, .if_icmp .ne 7, 0, 92), (88, .iconst 1, 1, 0), (89, .goto 4, 0, 93), (92, .iconst 0, 0, 0), (93, .invokestatic 167, 0, 1771)],
  [(96, .iastore, 0, 0), (97, .aload_n 0, 0, 0), (98, .getfield 51, 0, 1017), (101, .iload 7, 0, 0), (103, .iload 4, 0, 0), (105, .iastore, 0, 0), (106, .aload_n 0, 0, 0), (107, .getfield 54, 0, 1018), (110, .iload 7, 0, 0)],
  [(112, .aload_n 0, 0, 0), (113, .getfield 161, 0, 1020), (116, .iastore, 0, 0), (117, .aload_n 0, 0, 0), (118, .getfield 48, 0, 1016), (121, .iload 7, 0, 0), (123, .iload 4, 0, 0), (125, .aload_n 0, 0, 0), (126, .getfield 7, 0, 1000)],
  [(129, .bipush 8, 8, 0), (131, .iload 7, 0, 0), (133, .iadd, 0, 0), (134, .iaload, 0, 0), (135, .if_icmp .le 7, 0, 142), (138, .iconst 0, 0, 0), (139, .goto 31, 0, 170), (142, .aload_n 0, 0, 0), (143, .getfield 57, 0, 1019)],
  [(146, .iload 7, 0, 0), (148, .iaload, 0, 0), (149, .aload_n 0, 0, 0), (150, .getfield 161, 0, 1020), (153, .if_icmp .ge 13, 0, 166), (156, .aload_n 0, 0, 0), (157, .getfield 57, 0, 1019)],
  [(160, .iload 7, 0, 0), (162, .iaload, 0, 0), (163, .goto 7, 0, 170), (166, .aload_n 0, 0, 0), (167, .getfield 161, 0, 1020), (170, .iastore, 0, 0), (171, .aload_n 0, 0, 0), (172, .dup, 0, 0), (173, .getfield 161, 0, 1020)],
  [(176, .aload_n 0, 0, 0), (177, .getfield 48, 0, 1016), (180, .iload 7, 0, 0), (182, .iaload, 0, 0), (183, .isub, 0, 0), (184, .putfield 161, 0, 1020), (187, .iinc 4 1, 1, 0), (190, .iinc 6 1, 1, 0)],
  [(193, .goto (-167), 0, 26), (196, .iinc 5 1, 1, 0), (199, .goto (-182), 0, 17), (202, .return_, 0, 0)]]
def qp_k176 : List (List (Nat × Instr × Int32 × Nat)) := [
  [(0, .iload_n 0, 0, 0), (1, .iconst 1, 1, 0), (2, .if_icmp .eq 8, 0, 10), (5, .iload_n 0, 0, 0), (6, .iconst 4, 4, 0), (7, .if_icmp .ne 7, 0, 14), (10, .iconst 1, 1, 0), (11, .goto 4, 0, 15), (14, .iconst 0, 0, 0), (15, .ireturn, 0, 0)]]
def qp_k177 : List (List (Nat × Instr × Int32 × Nat)) := [
  [(0, .iload_n 0, 0, 0), (1, .tableswitch 47 2 5 #[31, 33, 35, 37], 0, 31)],
  [],
  [(32, .iconst 0, 0, 0), (33, .ireturn, 0, 0), (34, .iconst 2, 2, 0), (35, .ireturn, 0, 0), (36, .iconst 3, 3, 0), (37, .ireturn, 0, 0), (38, .iload_n 1, 0, 0), (39, .ifCond .eq 7, 0, 46), (42, .iconst 1, 1, 0), (43, .goto 4, 0, 47), (46, .iconst 0, 0, 0), (47, .ireturn, 0, 0)],
  [(48, .iconst 1, 1, 0), (49, .ireturn, 0, 0)]]
def qp_k178 : List (List (Nat × Instr × Int32 × Nat)) := [
  [(0, .aload_n 0, 0, 0), (1, .getfield 7, 0, 1000), (4, .bipush 69, 69, 0), (6, .aload_n 0, 0, 0), (7, .getfield 7, 0, 1000), (10, .iconst 0, 0, 0), (11, .iaload, 0, 0), (12, .iload_n 1, 0, 0), (13, .invokestatic 143, 0, 1791)],
  [(16, .ireturn, 0, 0)]]
def qp_k179 : List (List (Nat × Instr × Int32 × Nat)) := [
  [(0, .iconst 0, 0, 0), (1, .istore 4, 0, 0), (3, .iload 4, 0, 0), (5, .iload_n 2, 0, 0), (6, .if_icmp .ge 19, 0, 25), (9, .aload_n 0, 0, 0), (10, .iload_n 1, 0, 0), (11, .iload 4, 0, 0), (13, .iadd, 0, 0), (14, .iaload, 0, 0), (15, .iload_n 3, 0, 0)],
  [(16, .if_icmp .eq 9, 0, 25), (19, .iinc 4 1, 1, 0), (22, .goto (-19), 0, 3), (25, .iload 4, 0, 0), (27, .ireturn, 0, 0)]]
def qp_k180 : List (List (Nat × Instr × Int32 × Nat)) := [
  [(0, .aload_n 0, 0, 0), (1, .iload_n 1, 0, 0), (2, .invokevirtual 175, 0, 1780), (5, .istore_n 2, 0, 0), (6, .iload_n 2, 0, 0), (7, .ifCond .le 19, 0, 26), (10, .iconst 1, 1, 0), (11, .aload_n 0, 0, 0), (12, .getfield 7, 0, 1000), (15, .bipush 69, 69, 0)],
  [(17, .iload_n 2, 0, 0), (18, .iadd, 0, 0), (19, .iconst 1, 1, 0), (20, .isub, 0, 0), (21, .iaload, 0, 0), (22, .ishl, 0, 0), (23, .goto 4, 0, 27), (26, .iconst 0, 0, 0), (27, .istore_n 3, 0, 0), (28, .iload_n 2, 0, 0), (29, .aload_n 0, 0, 0), (30, .getfield 7, 0, 1000)],
  [(33, .iconst 0, 0, 0), (34, .iaload, 0, 0), (35, .iconst 1, 1, 0), (36, .isub, 0, 0), (37, .if_icmp .ge 21, 0, 58), (40, .iload_n 3, 0, 0), (41, .iconst 1, 1, 0), (42, .aload_n 0, 0, 0), (43, .getfield 7, 0, 1000), (46, .bipush 69, 69, 0)],
  [(48, .iload_n 2, 0, 0), (49, .iadd, 0, 0), (50, .iconst 1, 1, 0), (51, .iadd, 0, 0), (52, .iaload, 0, 0), (53, .ishl, 0, 0), (54, .ior, 0, 0), (55, .goto 4, 0, 59), (58, .iload_n 3, 0, 0), (59, .ireturn, 0, 0)]]
def qp_k181 : List (List (Nat × Instr × Int32 × Nat)) := [
  [(0, .aload_n 0, 0, 0), (1, .iload_n 1, 0, 0), (2, .invokevirtual 184, 0, 1720), (5, .ifCond .eq 15, 0, 20), (8, .iload_n 2, 0, 0), (9, .i2l, 0, 0), (10, .lconst 1, 0, 0), (11, .ldc2_w 85, 0, 0), (14, .invokestatic 87, 0, 1501)],
  [(17, .ifCond .ne 5, 0, 22), (20, .iconst (-1), (-1), 0), (21, .ireturn, 0, 0), (22, .aload_n 0, 0, 0), (23, .getfield 7, 0, 1000), (26, .iconst 2, 2, 0), (27, .iload_n 1, 0, 0), (28, .iadd, 0, 0), (29, .iaload, 0, 0), (30, .iload_n 2, 0, 0), (31, .invokestatic 192, 0, 1821)],
  [(34, .ifCond .ne 9, 0, 43), (37, .aload_n 0, 0, 0), (38, .iconst 3, 3, 0), (39, .invokevirtual 97, 0, 1510), (42, .ireturn, 0, 0), (43, .aload_n 0, 0, 0), (44, .invokevirtual 178, 0, 1740), (47, .iload_n 2, 0, 0)],
  [(48, .tableswitch 59 1 4 #[32, 59, 38, 45], 0, 32)],
  [],
  [(80, .aload_n 0, 0, 0), (81, .iload_n 1, 0, 0), (82, .invokevirtual 196, 0, 1830), (85, .ireturn, 0, 0), (86, .aload_n 0, 0, 0), (87, .getfield 54, 0, 1018), (90, .iload_n 1, 0, 0), (91, .iaload, 0, 0), (92, .ireturn, 0, 0), (93, .aload_n 0, 0, 0), (94, .getfield 57, 0, 1019)],
  [(97, .iload_n 1, 0, 0), (98, .iaload, 0, 0), (99, .aload_n 0, 0, 0), (100, .getfield 48, 0, 1016), (103, .iload_n 1, 0, 0), (104, .iaload, 0, 0), (105, .isub, 0, 0), (106, .ireturn, 0, 0), (107, .aload_n 0, 0, 0), (108, .getfield 7, 0, 1000), (111, .iconst 0, 0, 0)],
  [(112, .iaload, 0, 0), (113, .iconst 1, 1, 0), (114, .isub, 0, 0), (115, .aload_n 0, 0, 0), (116, .iload_n 1, 0, 0), (117, .invokevirtual 175, 0, 1780), (120, .isub, 0, 0), (121, .ireturn, 0, 0)]]
def qp_k182 : List (List (Nat × Instr × Int32 × Nat)) := [
  [(0, .iload_n 0, 0, 0), (1, .iload_n 1, 0, 0), (2, .if_icmp .eq 23, 0, 25), (5, .iload_n 1, 0, 0), (6, .iconst 1, 1, 0), (7, .if_icmp .ne 8, 0, 15), (10, .iload_n 0, 0, 0), (11, .iconst 4, 4, 0), (12, .if_icmp .eq 13, 0, 25), (15, .iload_n 1, 0, 0)],
  [(16, .iconst 2, 2, 0), (17, .if_icmp .ne 12, 0, 29), (20, .iload_n 0, 0, 0), (21, .iconst 5, 5, 0), (22, .if_icmp .ne 7, 0, 29), (25, .iconst 1, 1, 0), (26, .goto 4, 0, 30), (29, .iconst 0, 0, 0), (30, .ireturn, 0, 0)]]
def qp_k183 : List (List (Nat × Instr × Int32 × Nat)) := [
  [(0, .iconst 0, 0, 0), (1, .istore_n 2, 0, 0), (2, .iconst 0, 0, 0), (3, .istore_n 3, 0, 0), (4, .iload_n 3, 0, 0), (5, .aload_n 0, 0, 0), (6, .iload_n 1, 0, 0), (7, .invokevirtual 175, 0, 1780), (10, .if_icmp .ge 39, 0, 49), (13, .iload_n 2, 0, 0), (14, .aload_n 0, 0, 0), (15, .getfield 7, 0, 1000)],
  [(18, .iconst 2, 2, 0), (19, .aload_n 0, 0, 0), (20, .getfield 7, 0, 1000), (23, .bipush 69, 69, 0), (25, .iload_n 3, 0, 0), (26, .iadd, 0, 0), (27, .iaload, 0, 0), (28, .iadd, 0, 0), (29, .iaload, 0, 0), (30, .invokestatic 164, 0, 1761)],
  [(33, .ifCond .eq 7, 0, 40), (36, .iconst 0, 0, 0), (37, .goto 4, 0, 41), (40, .iconst 1, 1, 0), (41, .iadd, 0, 0), (42, .istore_n 2, 0, 0), (43, .iinc 3 1, 1, 0), (46, .goto (-42), 0, 4)],
  [(49, .iload_n 2, 0, 0), (50, .ireturn, 0, 0)]]
def qp_k184 : List (List (Nat × Instr × Int32 × Nat)) := [
  [(0, .aload_n 0, 0, 0), (1, .iload_n 1, 0, 0), (2, .invokevirtual 184, 0, 1720), (5, .ifCond .eq 11, 0, 16), (8, .aload_n 0, 0, 0), (9, .iload_n 2, 0, 0), (10, .invokevirtual 184, 0, 1720), (13, .ifCond .ne 5, 0, 18)],
  [(16, .iconst (-1), (-1), 0), (17, .ireturn, 0, 0), (18, .aload_n 0, 0, 0), (19, .getfield 7, 0, 1000), (22, .bipush 69, 69, 0), (24, .iload_n 2, 0, 0), (25, .iadd, 0, 0), (26, .iaload, 0, 0), (27, .iload_n 1, 0, 0), (28, .if_icmp .eq 15, 0, 43), (31, .aload_n 0, 0, 0)],
  [(32, .getfield 7, 0, 1000), (35, .bipush 56, 56, 0), (37, .iaload, 0, 0), (38, .bipush 12, 12, 0), (40, .if_icmp .ne 6, 0, 46), (43, .bipush (-4), (-4), 0), (45, .ireturn, 0, 0), (46, .aload_n 0, 0, 0), (47, .getfield 7, 0, 1000)],
  [(50, .bipush 14, 14, 0), (52, .iaload, 0, 0), (53, .bipush 40, 40, 0), (55, .if_icmp .ne 6, 0, 61), (58, .bipush (-2), (-2), 0), (60, .ireturn, 0, 0), (61, .aload_n 0, 0, 0), (62, .bipush 100, 100, 0)],
  [(64, .bipush 8, 8, 0), (66, .iload_n 1, 0, 0), (67, .imul, 0, 0), (68, .iadd, 0, 0), (69, .iload_n 2, 0, 0), (70, .iadd, 0, 0), (71, .invokevirtual 199, 0, 1850), (74, .istore_n 3, 0, 0), (75, .aload_n 0, 0, 0), (76, .getfield 7, 0, 1000), (79, .bipush 56, 56, 0)],
  [(81, .iaload, 0, 0), (82, .iconst 1, 1, 0), (83, .isub, 0, 0), (84, .ireturn, 0, 0)]]
def qp_k185 : List (List (Nat × Instr × Int32 × Nat)) := [
  [(0, .aload_n 0, 0, 0), (1, .getfield 7, 0, 1000), (4, .bipush 15, 15, 0), (6, .aload_n 0, 0, 0), (7, .getfield 7, 0, 1000), (10, .bipush 14, 14, 0), (12, .iaload, 0, 0), (13, .iadd, 0, 0), (14, .iload_n 1, 0, 0), (15, .iastore, 0, 0)],
  [(16, .aload_n 0, 0, 0), (17, .getfield 7, 0, 1000), (20, .bipush 14, 14, 0), (22, .dup2, 0, 0), (23, .iaload, 0, 0), (24, .iconst 1, 1, 0), (25, .iadd, 0, 0), (26, .iastore, 0, 0), (27, .aload_n 0, 0, 0), (28, .getfield 7, 0, 1000), (31, .iload_n 1, 0, 0)],
  [(32, .invokestatic 158, 0, 1861), (35, .ireturn, 0, 0)]]
def qp_k186 : List (List (Nat × Instr × Int32 × Nat)) := [
  [(0, .iload_n 1, 0, 0), (1, .sipush 300, 300, 0), (4, .if_icmp .lt 15, 0, 19), (7, .aload_n 0, 0, 0), (8, .bipush 55, 55, 0), (10, .iload_n 1, 0, 0), (11, .sipush 300, 300, 0), (14, .isub, 0, 0), (15, .iastore, 0, 0)],
  [(16, .goto 70, 0, 86), (19, .iload_n 1, 0, 0), (20, .sipush 200, 200, 0), (23, .if_icmp .lt 13, 0, 36), (26, .aload_n 0, 0, 0), (27, .iload_n 1, 0, 0), (28, .sipush 200, 200, 0), (31, .isub, 0, 0)],
  [(32, .invokestatic 154, 0, 1871), (35, .ireturn, 0, 0), (36, .iload_n 1, 0, 0), (37, .bipush 100, 100, 0), (39, .if_icmp .lt 47, 0, 86), (42, .aload_n 0, 0, 0), (43, .bipush 57, 57, 0), (45, .aload_n 0, 0, 0), (46, .bipush 56, 56, 0)],
  [(48, .iaload, 0, 0), (49, .iadd, 0, 0), (50, .iload_n 1, 0, 0), (51, .bipush 100, 100, 0), (53, .isub, 0, 0), (54, .iastore, 0, 0), (55, .aload_n 0, 0, 0), (56, .bipush 56, 56, 0), (58, .dup2, 0, 0), (59, .iaload, 0, 0), (60, .iconst 1, 1, 0), (61, .iadd, 0, 0), (62, .iastore, 0, 0), (63, .aload_n 0, 0, 0)],
  [(64, .bipush 69, 69, 0), (66, .aload_n 0, 0, 0), (67, .iconst 0, 0, 0), (68, .iaload, 0, 0), (69, .iload_n 1, 0, 0), (70, .bipush 100, 100, 0), (72, .isub, 0, 0), (73, .bipush 8, 8, 0), (75, .idiv, 0, 0), (76, .iload_n 1, 0, 0), (77, .bipush 100, 100, 0), (79, .isub, 0, 0)],
  [(80, .bipush 8, 8, 0), (82, .irem, 0, 0), (83, .invokestatic 147, 0, 1891), (86, .iconst 0, 0, 0), (87, .ireturn, 0, 0)]]
def qp_k187 : List (List (Nat × Instr × Int32 × Nat)) := [
  [(0, .aload_n 0, 0, 0), (1, .bipush 56, 56, 0), (3, .iaload, 0, 0), (4, .istore_n 2, 0, 0), (5, .iconst 0, 0, 0), (6, .istore_n 3, 0, 0), (7, .aload_n 0, 0, 0), (8, .bipush 56, 56, 0), (10, .iload_n 1, 0, 0), (11, .iastore, 0, 0), (12, .aload_n 0, 0, 0), (13, .invokestatic 151, 0, 1881)],
  [(16, .iload_n 1, 0, 0), (17, .iconst 1, 1, 0), (18, .iadd, 0, 0), (19, .istore 4, 0, 0), (21, .iload 4, 0, 0), (23, .iload_n 2, 0, 0), (24, .if_icmp .ge 88, 0, 112), (27, .aload_n 0, 0, 0), (28, .bipush 57, 57, 0), (30, .iload 4, 0, 0)],
  [(32, .iadd, 0, 0), (33, .iaload, 0, 0), (34, .bipush 8, 8, 0), (36, .idiv, 0, 0), (37, .istore 5, 0, 0), (39, .aload_n 0, 0, 0), (40, .bipush 57, 57, 0), (42, .iload 4, 0, 0), (44, .iadd, 0, 0), (45, .iaload, 0, 0), (46, .bipush 8, 8, 0)],
  [(48, .irem, 0, 0), (49, .istore 6, 0, 0), (51, .aload_n 0, 0, 0), (52, .bipush 69, 69, 0), (54, .iload 6, 0, 0), (56, .iadd, 0, 0), (57, .iaload, 0, 0), (58, .iload 5, 0, 0), (60, .if_icmp .ne 9, 0, 69), (63, .iinc 3 1, 1, 0)],
  [(66, .goto 40, 0, 106), (69, .aload_n 0, 0, 0), (70, .bipush 57, 57, 0), (72, .aload_n 0, 0, 0), (73, .bipush 56, 56, 0), (75, .iaload, 0, 0), (76, .iadd, 0, 0), (77, .aload_n 0, 0, 0), (78, .bipush 57, 57, 0)],
  [(80, .iload 4, 0, 0), (82, .iadd, 0, 0), (83, .iaload, 0, 0), (84, .iastore, 0, 0), (85, .aload_n 0, 0, 0), (86, .bipush 56, 56, 0), (88, .dup2, 0, 0), (89, .iaload, 0, 0), (90, .iconst 1, 1, 0), (91, .iadd, 0, 0), (92, .iastore, 0, 0), (93, .aload_n 0, 0, 0), (94, .bipush 69, 69, 0)],
  [(96, .aload_n 0, 0, 0), (97, .iconst 0, 0, 0), (98, .iaload, 0, 0), (99, .iload 5, 0, 0), (101, .iload 6, 0, 0), (103, .invokestatic 147, 0, 1891), (106, .iinc 4 1, 1, 0), (109, .goto (-88), 0, 21)],
  [(112, .iload_n 3, 0, 0), (113, .ireturn, 0, 0)]]
def qp_k188 : List (List (Nat × Instr × Int32 × Nat)) := [
  [(0, .iconst 0, 0, 0), (1, .istore_n 1, 0, 0), (2, .iload_n 1, 0, 0), (3, .bipush 6, 6, 0), (5, .if_icmp .ge 16, 0, 21), (8, .aload_n 0, 0, 0), (9, .bipush 69, 69, 0), (11, .iload_n 1, 0, 0), (12, .iadd, 0, 0), (13, .iload_n 1, 0, 0), (14, .iastore, 0, 0), (15, .iinc 1 1, 1, 0)],
  [(18, .goto (-16), 0, 2), (21, .iconst 0, 0, 0), (22, .istore_n 1, 0, 0), (23, .iload_n 1, 0, 0), (24, .aload_n 0, 0, 0), (25, .bipush 56, 56, 0), (27, .iaload, 0, 0), (28, .if_icmp .ge 36, 0, 64), (31, .aload_n 0, 0, 0)],
  [(32, .bipush 69, 69, 0), (34, .aload_n 0, 0, 0), (35, .iconst 0, 0, 0), (36, .iaload, 0, 0), (37, .aload_n 0, 0, 0), (38, .bipush 57, 57, 0), (40, .iload_n 1, 0, 0), (41, .iadd, 0, 0), (42, .iaload, 0, 0), (43, .bipush 8, 8, 0), (45, .idiv, 0, 0), (46, .aload_n 0, 0, 0), (47, .bipush 57, 57, 0)],
  [(49, .iload_n 1, 0, 0), (50, .iadd, 0, 0), (51, .iaload, 0, 0), (52, .bipush 8, 8, 0), (54, .irem, 0, 0), (55, .invokestatic 147, 0, 1891), (58, .iinc 1 1, 1, 0), (61, .goto (-38), 0, 23)],
  [(64, .return_, 0, 0)]]
def qp_k189 : List (List (Nat × Instr × Int32 × Nat)) := [
  [(0, .aload_n 0, 0, 0), (1, .iload_n 1, 0, 0), (2, .iload_n 2, 0, 0), (3, .iload_n 3, 0, 0), (4, .invokestatic 143, 0, 1791), (7, .istore 5, 0, 0), (9, .iload 5, 0, 0), (11, .iload 4, 0, 0), (13, .if_icmp .ge 23, 0, 36)],
  [(16, .aload_n 0, 0, 0), (17, .iload_n 1, 0, 0), (18, .iload 5, 0, 0), (20, .iadd, 0, 0), (21, .aload_n 0, 0, 0), (22, .iload_n 1, 0, 0), (23, .iload 5, 0, 0), (25, .iadd, 0, 0), (26, .iconst 1, 1, 0), (27, .iadd, 0, 0), (28, .iaload, 0, 0), (29, .iastore, 0, 0), (30, .iinc 5 1, 1, 0)],
  [(33, .goto (-24), 0, 9), (36, .iload 5, 0, 0), (38, .iload 4, 0, 0), (40, .if_icmp .le 23, 0, 63), (43, .aload_n 0, 0, 0), (44, .iload_n 1, 0, 0), (45, .iload 5, 0, 0), (47, .iadd, 0, 0)],
  [(48, .aload_n 0, 0, 0), (49, .iload_n 1, 0, 0), (50, .iload 5, 0, 0), (52, .iadd, 0, 0), (53, .iconst 1, 1, 0), (54, .isub, 0, 0), (55, .iaload, 0, 0), (56, .iastore, 0, 0), (57, .iinc 5 (-1), (-1), 0), (60, .goto (-24), 0, 36), (63, .aload_n 0, 0, 0)],
  [(64, .iload_n 1, 0, 0), (65, .iload 4, 0, 0), (67, .iadd, 0, 0), (68, .iload_n 3, 0, 0), (69, .iastore, 0, 0), (70, .return_, 0, 0)]]
def qp_k190 : List (List (Nat × Instr × Int32 × Nat)) := [
  [(0, .aload_n 0, 0, 0), (1, .iload_n 1, 0, 0), (2, .invokevirtual 202, 0, 1910), (5, .ifCond .ne 5, 0, 10), (8, .iconst (-1), (-1), 0), (9, .ireturn, 0, 0), (10, .aload_n 0, 0, 0), (11, .getfield 7, 0, 1000), (14, .bipush 14, 14, 0)],
  [(16, .iaload, 0, 0), (17, .bipush 40, 40, 0), (19, .if_icmp .ne 8, 0, 27), (22, .bipush (-2), (-2), 0), (24, .goto 12, 0, 36), (27, .aload_n 0, 0, 0), (28, .sipush 200, 200, 0), (31, .iload_n 1, 0, 0)],
  [(32, .iadd, 0, 0), (33, .invokevirtual 199, 0, 1850), (36, .ireturn, 0, 0)]]
def qp_k191 : List (List (Nat × Instr × Int32 × Nat)) := [
  [(0, .iload_n 1, 0, 0), (1, .i2l, 0, 0), (2, .lconst 0, 0, 0), (3, .aload_n 0, 0, 0), (4, .getfield 7, 0, 1000), (7, .bipush 56, 56, 0), (9, .iaload, 0, 0), (10, .iconst 1, 1, 0), (11, .isub, 0, 0), (12, .i2l, 0, 0), (13, .invokestatic 87, 0, 1501)],
  [(16, .ireturn, 0, 0)]]
def qp_k192 : List (List (Nat × Instr × Int32 × Nat)) := [
  [(0, .iload_n 1, 0, 0), (1, .i2l, 0, 0), (2, .lconst 0, 0, 0), (3, .ldc2_w 205, 0, 0), (6, .invokestatic 87, 0, 1501), (9, .ifCond .ne 5, 0, 14), (12, .iconst (-1), (-1), 0), (13, .ireturn, 0, 0), (14, .aload_n 0, 0, 0), (15, .getfield 7, 0, 1000)],
  [(18, .iconst 0, 0, 0), (19, .iaload, 0, 0), (20, .ifCond .eq 14, 0, 34), (23, .aload_n 0, 0, 0), (24, .getfield 7, 0, 1000), (27, .bipush 55, 55, 0), (29, .iaload, 0, 0), (30, .iload_n 1, 0, 0), (31, .if_icmp .ne 6, 0, 37)],
  [(34, .bipush (-4), (-4), 0), (36, .ireturn, 0, 0), (37, .aload_n 0, 0, 0), (38, .getfield 7, 0, 1000), (41, .bipush 14, 14, 0), (43, .iaload, 0, 0), (44, .bipush 40, 40, 0), (46, .if_icmp .ne 6, 0, 52)],
  [(49, .bipush (-2), (-2), 0), (51, .ireturn, 0, 0), (52, .aload_n 0, 0, 0), (53, .getfield 7, 0, 1000), (56, .bipush 55, 55, 0), (58, .iaload, 0, 0), (59, .istore_n 2, 0, 0), (60, .aload_n 0, 0, 0), (61, .sipush 300, 300, 0)],
  [(64, .iload_n 1, 0, 0), (65, .iadd, 0, 0), (66, .invokevirtual 199, 0, 1850), (69, .istore_n 3, 0, 0), (70, .iload_n 2, 0, 0), (71, .ireturn, 0, 0)]]
def qp_k193 : List (List (Nat × Instr × Int32 × Nat)) := [
  [(0, .iload_n 1, 0, 0), (1, .i2l, 0, 0), (2, .lconst 0, 0, 0), (3, .aload_n 0, 0, 0), (4, .getfield 7, 0, 1000), (7, .bipush 14, 14, 0), (9, .iaload, 0, 0), (10, .i2l, 0, 0), (11, .invokestatic 87, 0, 1501), (14, .ifCond .ne 5, 0, 19)],
  [(17, .iconst (-1), (-1), 0), (18, .ireturn, 0, 0), (19, .aload_n 0, 0, 0), (20, .getfield 7, 0, 1000), (23, .bipush 14, 14, 0), (25, .iaload, 0, 0), (26, .iload_n 1, 0, 0), (27, .isub, 0, 0), (28, .istore_n 2, 0, 0), (29, .aload_n 0, 0, 0), (30, .getfield 7, 0, 1000)],
  [(33, .invokestatic 139, 0, 1701), (36, .iconst 0, 0, 0), (37, .istore_n 3, 0, 0), (38, .iload_n 3, 0, 0), (39, .iload_n 1, 0, 0), (40, .if_icmp .ge 27, 0, 67), (43, .aload_n 0, 0, 0), (44, .getfield 7, 0, 1000), (47, .aload_n 0, 0, 0)],
  [(48, .getfield 7, 0, 1000), (51, .bipush 15, 15, 0), (53, .iload_n 3, 0, 0), (54, .iadd, 0, 0), (55, .iaload, 0, 0), (56, .invokestatic 158, 0, 1861), (59, .istore 4, 0, 0), (61, .iinc 3 1, 1, 0)],
  [(64, .goto (-26), 0, 38), (67, .aload_n 0, 0, 0), (68, .getfield 7, 0, 1000), (71, .bipush 14, 14, 0), (73, .iload_n 1, 0, 0), (74, .iastore, 0, 0), (75, .iload_n 2, 0, 0), (76, .ireturn, 0, 0)]]
def qp_k194 : List (List (Nat × Instr × Int32 × Nat)) := [
  [(0, .iload_n 1, 0, 0), (1, .invokestatic 209, 0, 1951), (4, .ifCond .ne 5, 0, 9), (7, .iconst (-1), (-1), 0), (8, .ireturn, 0, 0), (9, .aload_n 0, 0, 0), (10, .getfield 7, 0, 1000), (13, .iconst 0, 0, 0), (14, .iaload, 0, 0), (15, .ifCond .ne 6, 0, 21)],
  [(18, .bipush (-4), (-4), 0), (20, .ireturn, 0, 0), (21, .iconst 0, 0, 0), (22, .istore_n 2, 0, 0), (23, .iload_n 2, 0, 0), (24, .bipush 75, 75, 0), (26, .if_icmp .ge 26, 0, 52), (29, .aload_n 0, 0, 0), (30, .getfield 13, 0, 1001)],
  [(33, .bipush 75, 75, 0), (35, .iload_n 1, 0, 0), (36, .imul, 0, 0), (37, .iload_n 2, 0, 0), (38, .iadd, 0, 0), (39, .aload_n 0, 0, 0), (40, .getfield 7, 0, 1000), (43, .iload_n 2, 0, 0), (44, .iaload, 0, 0), (45, .iastore, 0, 0), (46, .iinc 2 1, 1, 0)],
  [(49, .goto (-26), 0, 23), (52, .aload_n 0, 0, 0), (53, .getfield 16, 0, 1002), (56, .iload_n 1, 0, 0), (57, .iconst 1, 1, 0), (58, .bastore, 0, 0), (59, .aload_n 0, 0, 0), (60, .getfield 7, 0, 1000), (63, .bipush 14, 14, 0)],
  [(65, .iaload, 0, 0), (66, .ireturn, 0, 0)]]
def qp_k195 : List (List (Nat × Instr × Int32 × Nat)) := [
  [(0, .iload_n 0, 0, 0), (1, .i2l, 0, 0), (2, .lconst 0, 0, 0), (3, .ldc2_w 207, 0, 0), (6, .invokestatic 87, 0, 1501), (9, .ireturn, 0, 0)]]
def qp_k196 : List (List (Nat × Instr × Int32 × Nat)) := [
  [(0, .iload_n 1, 0, 0), (1, .invokestatic 209, 0, 1951), (4, .ifCond .ne 5, 0, 9), (7, .iconst (-1), (-1), 0), (8, .ireturn, 0, 0), (9, .aload_n 0, 0, 0), (10, .getfield 16, 0, 1002), (13, .iload_n 1, 0, 0), (14, .baload, 0, 0), (15, .ifCond .ne 9, 0, 24)],
  [(18, .aload_n 0, 0, 0), (19, .iconst 1, 1, 0), (20, .invokevirtual 97, 0, 1510), (23, .ireturn, 0, 0), (24, .iconst 0, 0, 0), (25, .istore_n 2, 0, 0), (26, .iload_n 2, 0, 0), (27, .bipush 75, 75, 0), (29, .if_icmp .ge 26, 0, 55)],
  [(32, .aload_n 0, 0, 0), (33, .getfield 7, 0, 1000), (36, .iload_n 2, 0, 0), (37, .aload_n 0, 0, 0), (38, .getfield 13, 0, 1001), (41, .bipush 75, 75, 0), (43, .iload_n 1, 0, 0), (44, .imul, 0, 0), (45, .iload_n 2, 0, 0), (46, .iadd, 0, 0), (47, .iaload, 0, 0)],
  [(48, .iastore, 0, 0), (49, .iinc 2 1, 1, 0), (52, .goto (-26), 0, 26), (55, .aload_n 0, 0, 0), (56, .getfield 7, 0, 1000), (59, .bipush 14, 14, 0), (61, .iaload, 0, 0), (62, .ireturn, 0, 0)]]
def qp_k197 : List (List (Nat × Instr × Int32 × Nat)) := [
  [(0, .aload_n 0, 0, 0), (1, .iload_n 1, 0, 0), (2, .invokevirtual 184, 0, 1720), (5, .ifCond .eq 15, 0, 20), (8, .aload_n 0, 0, 0), (9, .getfield 7, 0, 1000), (12, .bipush 69, 69, 0), (14, .iload_n 1, 0, 0), (15, .iadd, 0, 0)],
  [(16, .iaload, 0, 0), (17, .goto 4, 0, 21), (20, .iconst (-1), (-1), 0), (21, .ireturn, 0, 0)]]
def qp_k198 : List (List (Nat × Instr × Int32 × Nat)) := [
  [(0, .aload_n 0, 0, 0), (1, .iload_n 1, 0, 0), (2, .invokevirtual 202, 0, 1910), (5, .ifCond .eq 13, 0, 18), (8, .iload_n 2, 0, 0), (9, .i2l, 0, 0), (10, .lconst 0, 0, 0), (11, .lconst 1, 0, 0), (12, .invokestatic 87, 0, 1501), (15, .ifCond .ne 5, 0, 20)],
  [(18, .iconst (-1), (-1), 0), (19, .ireturn, 0, 0), (20, .iload_n 2, 0, 0), (21, .ifCond .ne 18, 0, 39), (24, .aload_n 0, 0, 0), (25, .getfield 7, 0, 1000), (28, .bipush 57, 57, 0), (30, .iload_n 1, 0, 0), (31, .iadd, 0, 0)],
  [(32, .iaload, 0, 0), (33, .bipush 8, 8, 0), (35, .idiv, 0, 0), (36, .goto 15, 0, 51), (39, .aload_n 0, 0, 0), (40, .getfield 7, 0, 1000), (43, .bipush 57, 57, 0), (45, .iload_n 1, 0, 0), (46, .iadd, 0, 0), (47, .iaload, 0, 0)],
  [(48, .bipush 8, 8, 0), (50, .irem, 0, 0), (51, .ireturn, 0, 0)]]
def qp_k199 : List (List (Nat × Instr × Int32 × Nat)) := [
  [(0, .aload_n 0, 0, 0), (1, .iload_n 1, 0, 0), (2, .invokevirtual 184, 0, 1720), (5, .ifCond .eq 42, 0, 47), (8, .aload_n 0, 0, 0), (9, .iload_n 2, 0, 0), (10, .invokevirtual 184, 0, 1720), (13, .ifCond .eq 34, 0, 47)],
  [(16, .aload_n 0, 0, 0), (17, .getfield 7, 0, 1000), (20, .iconst 2, 2, 0), (21, .iload_n 1, 0, 0), (22, .iadd, 0, 0), (23, .iaload, 0, 0), (24, .iload_n 2, 0, 0), (25, .aload_n 0, 0, 0), (26, .getfield 7, 0, 1000), (29, .iconst 0, 0, 0), (30, .iaload, 0, 0), (31, .iconst 1, 1, 0)],
  [(32, .isub, 0, 0), (33, .if_icmp .ne 7, 0, 40), (36, .iconst 1, 1, 0), (37, .goto 4, 0, 41), (40, .iconst 0, 0, 0), (41, .invokestatic 167, 0, 1771), (44, .goto 4, 0, 48), (47, .iconst (-1), (-1), 0)],
  [(48, .ireturn, 0, 0)]]
def qp_k200 : List (List (Nat × Instr × Int32 × Nat)) := [
  [(0, .aload_n 0, 0, 0), (1, .iload_n 1, 0, 0), (2, .invokevirtual 184, 0, 1720), (5, .ifCond .eq 20, 0, 25), (8, .aload_n 0, 0, 0), (9, .iload_n 2, 0, 0), (10, .invokevirtual 184, 0, 1720), (13, .ifCond .eq 12, 0, 25)],
  [(16, .aload_n 0, 0, 0), (17, .iload_n 1, 0, 0), (18, .iload_n 2, 0, 0), (19, .invokevirtual 215, 0, 2010), (22, .goto 4, 0, 26), (25, .iconst (-1), (-1), 0), (26, .ireturn, 0, 0)]]
def qp_k201 : List (List (Nat × Instr × Int32 × Nat)) := [
  [(0, .aload_n 0, 0, 0), (1, .invokevirtual 212, 0, 2020), (4, .aload_n 0, 0, 0), (5, .getfield 45, 0, 1015), (8, .bipush 69, 69, 0), (10, .aload_n 0, 0, 0), (11, .getfield 7, 0, 1000), (14, .iconst 0, 0, 0), (15, .iaload, 0, 0)],
  [(16, .iload_n 1, 0, 0), (17, .iload_n 2, 0, 0), (18, .invokestatic 147, 0, 1891), (21, .aload_n 0, 0, 0), (22, .aload_n 0, 0, 0), (23, .getfield 45, 0, 1015), (26, .bipush 69, 69, 0), (28, .aload_n 0, 0, 0), (29, .getfield 7, 0, 1000)],
  [(32, .iconst 0, 0, 0), (33, .iaload, 0, 0), (34, .invokevirtual 171, 0, 1750), (37, .aload_n 0, 0, 0), (38, .getfield 48, 0, 1016), (41, .iload_n 1, 0, 0), (42, .iaload, 0, 0), (43, .ireturn, 0, 0)]]
def qp_k202 : List (List (Nat × Instr × Int32 × Nat)) := [
  [(0, .iconst 0, 0, 0), (1, .istore_n 1, 0, 0), (2, .iload_n 1, 0, 0), (3, .bipush 75, 75, 0), (5, .if_icmp .ge 21, 0, 26), (8, .aload_n 0, 0, 0), (9, .getfield 45, 0, 1015), (12, .iload_n 1, 0, 0), (13, .aload_n 0, 0, 0), (14, .getfield 7, 0, 1000)],
  [(17, .iload_n 1, 0, 0), (18, .iaload, 0, 0), (19, .iastore, 0, 0), (20, .iinc 1 1, 1, 0), (23, .goto (-21), 0, 2), (26, .return_, 0, 0)]]
def qp_k203 : List (List (Nat × Instr × Int32 × Nat)) := [
  [(0, .aload_n 0, 0, 0), (1, .iload_n 1, 0, 0), (2, .invokevirtual 184, 0, 1720), (5, .ifCond .ne 5, 0, 10), (8, .iconst (-1), (-1), 0), (9, .ireturn, 0, 0), (10, .bipush (-9), (-9), 0), (12, .istore_n 2, 0, 0), (13, .bipush (-9), (-9), 0), (15, .istore_n 3, 0, 0)],
  [(16, .iconst 0, 0, 0), (17, .istore 4, 0, 0), (19, .iload 4, 0, 0), (21, .aload_n 0, 0, 0), (22, .getfield 7, 0, 1000), (25, .iconst 0, 0, 0), (26, .iaload, 0, 0), (27, .if_icmp .ge 44, 0, 71), (30, .aload_n 0, 0, 0), (31, .iload_n 1, 0, 0)],
  [(32, .iload 4, 0, 0), (34, .invokevirtual 215, 0, 2010), (37, .istore 5, 0, 0), (39, .iload 5, 0, 0), (41, .iload_n 3, 0, 0), (42, .if_icmp .le 8, 0, 50), (45, .iload 4, 0, 0), (47, .goto 4, 0, 51)],
  [(50, .iload_n 2, 0, 0), (51, .istore_n 2, 0, 0), (52, .iload 5, 0, 0), (54, .iload_n 3, 0, 0), (55, .if_icmp .le 8, 0, 63), (58, .iload 5, 0, 0), (60, .goto 4, 0, 64), (63, .iload_n 3, 0, 0)],
  [(64, .istore_n 3, 0, 0), (65, .iinc 4 1, 1, 0), (68, .goto (-49), 0, 19), (71, .aload_n 0, 0, 0), (72, .iload_n 3, 0, 0), (73, .invokevirtual 105, 0, 1540), (76, .istore 4, 0, 0), (78, .iload_n 2, 0, 0), (79, .ireturn, 0, 0)]]
def qp_k204 : List (List (Nat × Instr × Int32 × Nat)) := [
  [(0, .aload_n 0, 0, 0), (1, .iload_n 1, 0, 0), (2, .invokevirtual 202, 0, 1910), (5, .ifCond .ne 5, 0, 10), (8, .iconst (-1), (-1), 0), (9, .ireturn, 0, 0), (10, .aload_n 0, 0, 0), (11, .invokevirtual 212, 0, 2020), (14, .aload_n 0, 0, 0), (15, .getfield 45, 0, 1015)],
  [(18, .iload_n 1, 0, 0), (19, .invokestatic 154, 0, 1871), (22, .ireturn, 0, 0)]]
def qp_k205 : List (List (Nat × Instr × Int32 × Nat)) := [
  [(0, .aload_n 0, 0, 0), (1, .iload_n 1, 0, 0), (2, .invokevirtual 184, 0, 1720), (5, .ifCond .eq 32, 0, 37), (8, .aload_n 0, 0, 0), (9, .iload_n 2, 0, 0), (10, .invokevirtual 184, 0, 1720), (13, .ifCond .eq 24, 0, 37)],
  [(16, .iload_n 1, 0, 0), (17, .iload_n 2, 0, 0), (18, .if_icmp .eq 19, 0, 37), (21, .aload_n 0, 0, 0), (22, .iload_n 3, 0, 0), (23, .invokevirtual 184, 0, 1720), (26, .ifCond .eq 11, 0, 37), (29, .iload 4, 0, 0), (31, .invokestatic 93, 0, 1491)],
  [(34, .ifCond .ne 5, 0, 39), (37, .iconst (-1), (-1), 0), (38, .ireturn, 0, 0), (39, .iconst 1, 1, 0), (40, .istore 5, 0, 0), (42, .iconst 0, 0, 0), (43, .istore 6, 0, 0), (45, .iload 6, 0, 0), (47, .iconst 3, 3, 0)],
  [(48, .if_icmp .gt 94, 0, 142), (51, .iconst 0, 0, 0), (52, .istore 7, 0, 0), (54, .iload 7, 0, 0), (56, .iload 5, 0, 0), (58, .if_icmp .ge 71, 0, 129), (61, .aload_n 0, 0, 0), (62, .iload 7, 0, 0)],
  [(64, .iload 6, 0, 0), (66, .iload_n 1, 0, 0), (67, .iload_n 2, 0, 0), (68, .iload_n 3, 0, 0), (69, .invokevirtual 218, 0, 2060), (72, .ifCond .eq 51, 0, 123), (75, .aload_n 0, 0, 0), (76, .getfield 23, 0, 1004), (79, .iload 4, 0, 0)],
  [(81, .iload 6, 0, 0), (83, .iastore, 0, 0), (84, .iconst 0, 0, 0), (85, .istore 8, 0, 0), (87, .iload 8, 0, 0), (89, .iload 6, 0, 0), (91, .if_icmp .ge 29, 0, 120), (94, .aload_n 0, 0, 0), (95, .getfield 20, 0, 1003)],
  [(98, .bipush 40, 40, 0), (100, .iload 4, 0, 0), (102, .imul, 0, 0), (103, .iload 8, 0, 0), (105, .iadd, 0, 0), (106, .aload_n 0, 0, 0), (107, .getfield 60, 0, 1021), (110, .iload 8, 0, 0)],
  [(112, .iaload, 0, 0), (113, .iastore, 0, 0), (114, .iinc 8 1, 1, 0), (117, .goto (-30), 0, 87), (120, .iload 6, 0, 0), (122, .ireturn, 0, 0), (123, .iinc 7 1, 1, 0), (126, .goto (-72), 0, 54)],
  [(129, .iload 5, 0, 0), (131, .bipush 36, 36, 0), (133, .imul, 0, 0), (134, .istore 5, 0, 0), (136, .iinc 6 1, 1, 0), (139, .goto (-94), 0, 45), (142, .bipush (-9), (-9), 0)],
  [(144, .ireturn, 0, 0)]]
def qp_k206 : List (List (Nat × Instr × Int32 × Nat)) := [
  [(0, .iload_n 1, 0, 0), (1, .istore 6, 0, 0), (3, .aload_n 0, 0, 0), (4, .getfield 7, 0, 1000), (7, .iconst 0, 0, 0), (8, .iaload, 0, 0), (9, .istore 7, 0, 0), (11, .iconst 1, 1, 0), (12, .istore 8, 0, 0), (14, .iload_n 2, 0, 0), (15, .iconst 1, 1, 0)],
  [(16, .isub, 0, 0), (17, .istore 9, 0, 0), (19, .iload 9, 0, 0), (21, .ifCond .lt 40, 0, 61), (24, .aload_n 0, 0, 0), (25, .getfield 60, 0, 1021), (28, .iload 9, 0, 0), (30, .bipush 8, 8, 0)],
  [(32, .iload 6, 0, 0), (34, .bipush 36, 36, 0), (36, .irem, 0, 0), (37, .bipush 6, 6, 0), (39, .idiv, 0, 0), (40, .imul, 0, 0), (41, .iload 6, 0, 0), (43, .bipush 6, 6, 0), (45, .irem, 0, 0), (46, .iadd, 0, 0), (47, .iastore, 0, 0)],
  [(48, .iload 6, 0, 0), (50, .bipush 36, 36, 0), (52, .idiv, 0, 0), (53, .istore 6, 0, 0), (55, .iinc 9 (-1), (-1), 0), (58, .goto (-39), 0, 19), (61, .aload_n 0, 0, 0), (62, .invokevirtual 212, 0, 2020)],
  [(65, .iconst 0, 0, 0), (66, .istore 9, 0, 0), (68, .iload 9, 0, 0), (70, .iload_n 2, 0, 0), (71, .if_icmp .ge 94, 0, 165), (74, .iload 8, 0, 0), (76, .ifCond .eq 89, 0, 165), (79, .aload_n 0, 0, 0)],
  [(80, .getfield 60, 0, 1021), (83, .iload 9, 0, 0), (85, .iaload, 0, 0), (86, .bipush 8, 8, 0), (88, .idiv, 0, 0), (89, .istore 10, 0, 0), (91, .aload_n 0, 0, 0), (92, .getfield 60, 0, 1021), (95, .iload 9, 0, 0)],
  [(97, .iaload, 0, 0), (98, .bipush 8, 8, 0), (100, .irem, 0, 0), (101, .istore 11, 0, 0), (103, .iload 10, 0, 0), (105, .iload 7, 0, 0), (107, .if_icmp .ge 29, 0, 136), (110, .iload 11, 0, 0)],
  [(112, .iload 7, 0, 0), (114, .if_icmp .ge 22, 0, 136), (117, .aload_n 0, 0, 0), (118, .getfield 45, 0, 1015), (121, .bipush 69, 69, 0), (123, .iload 11, 0, 0), (125, .iadd, 0, 0), (126, .iaload, 0, 0), (127, .iload 10, 0, 0)],
  [(129, .if_icmp .eq 7, 0, 136), (132, .iconst 1, 1, 0), (133, .goto 4, 0, 137), (136, .iconst 0, 0, 0), (137, .istore 8, 0, 0), (139, .iload 8, 0, 0), (141, .ifCond .eq 18, 0, 159)],
  [(144, .aload_n 0, 0, 0), (145, .getfield 45, 0, 1015), (148, .bipush 69, 69, 0), (150, .iload 7, 0, 0), (152, .iload 10, 0, 0), (154, .iload 11, 0, 0), (156, .invokestatic 147, 0, 1891), (159, .iinc 9 1, 1, 0)],
  [(162, .goto (-94), 0, 68), (165, .iload 8, 0, 0), (167, .ifCond .ne 5, 0, 172), (170, .iconst 0, 0, 0), (171, .ireturn, 0, 0), (172, .aload_n 0, 0, 0), (173, .getfield 45, 0, 1015)],
  [(176, .bipush 69, 69, 0), (178, .iload 7, 0, 0), (180, .iload_n 3, 0, 0), (181, .invokestatic 143, 0, 1791), (184, .aload_n 0, 0, 0), (185, .getfield 45, 0, 1015), (188, .bipush 69, 69, 0), (190, .iload 7, 0, 0)],
  [(192, .iload 4, 0, 0), (194, .invokestatic 143, 0, 1791), (197, .isub, 0, 0), (198, .istore 9, 0, 0), (200, .aload_n 0, 0, 0), (201, .aload_n 0, 0, 0), (202, .getfield 45, 0, 1015), (205, .bipush 69, 69, 0), (207, .iload 7, 0, 0)],
  [(209, .invokevirtual 171, 0, 1750), (212, .iload 9, 0, 0), (214, .iconst 1, 1, 0), (215, .if_icmp .eq 9, 0, 224), (218, .iload 9, 0, 0), (220, .iconst (-1), (-1), 0), (221, .if_icmp .ne 24, 0, 245)],
  [(224, .aload_n 0, 0, 0), (225, .getfield 48, 0, 1016), (228, .iload 5, 0, 0), (230, .iaload, 0, 0), (231, .aload_n 0, 0, 0), (232, .getfield 57, 0, 1019), (235, .iload 5, 0, 0), (237, .iaload, 0, 0), (238, .if_icmp .ne 7, 0, 245)],
  [(241, .iconst 1, 1, 0), (242, .goto 4, 0, 246), (245, .iconst 0, 0, 0), (246, .ireturn, 0, 0)]]
def qp_k207 : List (List (Nat × Instr × Int32 × Nat)) := [
  [(0, .iload_n 1, 0, 0), (1, .invokestatic 93, 0, 1491), (4, .ifCond .ne 5, 0, 9), (7, .iconst (-1), (-1), 0), (8, .ireturn, 0, 0), (9, .aload_n 0, 0, 0), (10, .getfield 7, 0, 1000), (13, .iconst 0, 0, 0), (14, .iaload, 0, 0), (15, .ifCond .ne 6, 0, 21)],
  [(18, .bipush (-4), (-4), 0), (20, .ireturn, 0, 0), (21, .aload_n 0, 0, 0), (22, .iload_n 1, 0, 0), (23, .invokevirtual 230, 0, 2080), (26, .istore_n 2, 0, 0), (27, .iload_n 2, 0, 0), (28, .ifCond .eq 5, 0, 33), (31, .iload_n 2, 0, 0)],
  [(32, .ireturn, 0, 0), (33, .iconst 0, 0, 0), (34, .istore_n 3, 0, 0), (35, .iconst 0, 0, 0), (36, .istore 4, 0, 0), (38, .iload 4, 0, 0), (40, .aload_n 0, 0, 0), (41, .invokevirtual 233, 0, 2090), (44, .if_icmp .ge 27, 0, 71), (47, .iload_n 3, 0, 0)],
  [(48, .aload_n 0, 0, 0), (49, .iload 4, 0, 0), (51, .iload_n 1, 0, 0), (52, .invokevirtual 237, 0, 2100), (55, .ifCond .eq 7, 0, 62), (58, .iconst 1, 1, 0), (59, .goto 4, 0, 63), (62, .iconst 0, 0, 0), (63, .iadd, 0, 0)],
  [(64, .istore_n 3, 0, 0), (65, .iinc 4 1, 1, 0), (68, .goto (-30), 0, 38), (71, .aload_n 0, 0, 0), (72, .iload_n 3, 0, 0), (73, .i2l, 0, 0), (74, .putfield 240, 0, 1010), (77, .aload_n 0, 0, 0), (78, .lconst 1, 0, 0), (79, .putfield 35, 0, 1011)],
  [(82, .iconst 1, 1, 0), (83, .ireturn, 0, 0)]]
def qp_k208 : List (List (Nat × Instr × Int32 × Nat)) := [
  [(0, .aload_n 0, 0, 0), (1, .getfield 23, 0, 1004), (4, .iload_n 1, 0, 0), (5, .iaload, 0, 0), (6, .ifCond .ge 9, 0, 15), (9, .aload_n 0, 0, 0), (10, .iconst 1, 1, 0), (11, .invokevirtual 97, 0, 1510), (14, .ireturn, 0, 0), (15, .aload_n 0, 0, 0)],
  [(16, .getfield 23, 0, 1004), (19, .iload_n 1, 0, 0), (20, .iaload, 0, 0), (21, .iconst 2, 2, 0), (22, .irem, 0, 0), (23, .ifCond .ne 14, 0, 37), (26, .aload_n 0, 0, 0), (27, .getfield 23, 0, 1004), (30, .iload_n 1, 0, 0), (31, .iaload, 0, 0)],
  [(32, .bipush 16, 16, 0), (34, .if_icmp .le 9, 0, 43), (37, .aload_n 0, 0, 0), (38, .iconst 5, 5, 0), (39, .invokevirtual 97, 0, 1510), (42, .ireturn, 0, 0), (43, .iconst 0, 0, 0), (44, .istore_n 2, 0, 0), (45, .iload_n 2, 0, 0), (46, .aload_n 0, 0, 0), (47, .getfield 23, 0, 1004)],
  [(50, .iload_n 1, 0, 0), (51, .iaload, 0, 0), (52, .if_icmp .ge 55, 0, 107), (55, .aload_n 0, 0, 0), (56, .getfield 20, 0, 1003), (59, .bipush 40, 40, 0), (61, .iload_n 1, 0, 0), (62, .imul, 0, 0), (63, .iload_n 2, 0, 0)],
  [(64, .iadd, 0, 0), (65, .iaload, 0, 0), (66, .i2l, 0, 0), (67, .lconst 0, 0, 0), (68, .iload_n 2, 0, 0), (69, .iconst 2, 2, 0), (70, .irem, 0, 0), (71, .ifCond .ne 15, 0, 86), (74, .aload_n 0, 0, 0), (75, .getfield 7, 0, 1000), (78, .iconst 0, 0, 0), (79, .iaload, 0, 0)],
  [(80, .iconst 1, 1, 0), (81, .isub, 0, 0), (82, .i2l, 0, 0), (83, .goto 6, 0, 89), (86, .ldc2_w 222, 0, 0), (89, .invokestatic 87, 0, 1501), (92, .ifCond .ne 9, 0, 101), (95, .aload_n 0, 0, 0)],
  [(96, .iconst 3, 3, 0), (97, .invokevirtual 97, 0, 1510), (100, .ireturn, 0, 0), (101, .iinc 2 1, 1, 0), (104, .goto (-59), 0, 45), (107, .iconst 0, 0, 0), (108, .ireturn, 0, 0)]]
def qp_k209 : List (List (Nat × Instr × Int32 × Nat)) := [
  [(0, .iconst 1, 1, 0), (1, .istore_n 1, 0, 0), (2, .iconst 2, 2, 0), (3, .istore_n 2, 0, 0), (4, .iload_n 2, 0, 0), (5, .aload_n 0, 0, 0), (6, .getfield 7, 0, 1000), (9, .iconst 0, 0, 0), (10, .iaload, 0, 0), (11, .if_icmp .gt 13, 0, 24), (14, .iload_n 1, 0, 0), (15, .iload_n 2, 0, 0)],
  [(16, .imul, 0, 0), (17, .istore_n 1, 0, 0), (18, .iinc 2 1, 1, 0), (21, .goto (-17), 0, 4), (24, .iload_n 1, 0, 0), (25, .ireturn, 0, 0)]]
def qp_k210 : List (List (Nat × Instr × Int32 × Nat)) := [
  [(0, .iconst 1, 1, 0), (1, .istore_n 3, 0, 0), (2, .aload_n 0, 0, 0), (3, .iload_n 1, 0, 0), (4, .invokevirtual 227, 0, 2110), (7, .aload_n 0, 0, 0), (8, .aload_n 0, 0, 0), (9, .getfield 63, 0, 1022), (12, .iconst 0, 0, 0), (13, .aload_n 0, 0, 0), (14, .getfield 7, 0, 1000)],
  [(17, .iconst 0, 0, 0), (18, .iaload, 0, 0), (19, .invokevirtual 171, 0, 1750), (22, .iconst 0, 0, 0), (23, .istore 4, 0, 0), (25, .iload 4, 0, 0), (27, .iconst 1, 1, 0), (28, .iadd, 0, 0), (29, .aload_n 0, 0, 0), (30, .getfield 23, 0, 1004)],
  [(33, .iload_n 2, 0, 0), (34, .iaload, 0, 0), (35, .if_icmp .ge 53, 0, 88), (38, .iload_n 3, 0, 0), (39, .ifCond .eq 49, 0, 88), (42, .aload_n 0, 0, 0), (43, .getfield 48, 0, 1016), (46, .aload_n 0, 0, 0), (47, .getfield 20, 0, 1003)],
  [(50, .bipush 40, 40, 0), (52, .iload_n 2, 0, 0), (53, .imul, 0, 0), (54, .iload 4, 0, 0), (56, .iadd, 0, 0), (57, .iaload, 0, 0), (58, .iaload, 0, 0), (59, .aload_n 0, 0, 0), (60, .getfield 20, 0, 1003), (63, .bipush 40, 40, 0)],
  [(65, .iload_n 2, 0, 0), (66, .imul, 0, 0), (67, .iload 4, 0, 0), (69, .iadd, 0, 0), (70, .iconst 1, 1, 0), (71, .iadd, 0, 0), (72, .iaload, 0, 0), (73, .if_icmp .ne 7, 0, 80), (76, .iconst 1, 1, 0), (77, .goto 4, 0, 81)],
  [(80, .iconst 0, 0, 0), (81, .istore_n 3, 0, 0), (82, .iinc 4 2, 2, 0), (85, .goto (-60), 0, 25), (88, .iload_n 3, 0, 0), (89, .ireturn, 0, 0)]]
def qp_k211 : List (List (Nat × Instr × Int32 × Nat)) := [
  [(0, .aload_n 0, 0, 0), (1, .getfield 7, 0, 1000), (4, .iconst 0, 0, 0), (5, .iaload, 0, 0), (6, .istore_n 2, 0, 0), (7, .iconst 1, 1, 0), (8, .iload_n 2, 0, 0), (9, .ishl, 0, 0), (10, .iconst 1, 1, 0), (11, .isub, 0, 0), (12, .istore_n 3, 0, 0), (13, .iload_n 1, 0, 0), (14, .istore 4, 0, 0)],
  [(16, .iconst 1, 1, 0), (17, .istore 5, 0, 0), (19, .iconst 2, 2, 0), (20, .istore 6, 0, 0), (22, .iload 6, 0, 0), (24, .iload_n 2, 0, 0), (25, .if_icmp .ge 16, 0, 41), (28, .iload 5, 0, 0), (30, .iload 6, 0, 0)],
  [(32, .imul, 0, 0), (33, .istore 5, 0, 0), (35, .iinc 6 1, 1, 0), (38, .goto (-16), 0, 22), (41, .iconst 0, 0, 0), (42, .istore 6, 0, 0), (44, .iload 6, 0, 0), (46, .iload_n 2, 0, 0), (47, .if_icmp .ge 106, 0, 153)],
  [(50, .iload 4, 0, 0), (52, .iload 5, 0, 0), (54, .idiv, 0, 0), (55, .istore 7, 0, 0), (57, .iconst 0, 0, 0), (58, .istore 8, 0, 0), (60, .iload 4, 0, 0), (62, .iload 5, 0, 0)],
  [(64, .irem, 0, 0), (65, .istore 4, 0, 0), (67, .iload 6, 0, 0), (69, .iload_n 2, 0, 0), (70, .iconst 2, 2, 0), (71, .isub, 0, 0), (72, .if_icmp .ge 15, 0, 87), (75, .iload 5, 0, 0), (77, .iload_n 2, 0, 0), (78, .iconst 1, 1, 0), (79, .isub, 0, 0)],
  [(80, .iload 6, 0, 0), (82, .isub, 0, 0), (83, .idiv, 0, 0), (84, .goto 4, 0, 88), (87, .iconst 1, 1, 0), (88, .istore 5, 0, 0), (90, .iload_n 3, 0, 0), (91, .iload 8, 0, 0), (93, .invokestatic 224, 0, 2121)],
  [(96, .ifCond .eq 8, 0, 104), (99, .iload 7, 0, 0), (101, .ifCond .le 28, 0, 129), (104, .iload 7, 0, 0), (106, .iload_n 3, 0, 0), (107, .iload 8, 0, 0), (109, .invokestatic 224, 0, 2121)],
  [(112, .ifCond .eq 7, 0, 119), (115, .iconst 1, 1, 0), (116, .goto 4, 0, 120), (119, .iconst 0, 0, 0), (120, .isub, 0, 0), (121, .istore 7, 0, 0), (123, .iinc 8 1, 1, 0), (126, .goto (-36), 0, 90)],
  [(129, .aload_n 0, 0, 0), (130, .getfield 63, 0, 1022), (133, .iload 6, 0, 0), (135, .iload 8, 0, 0), (137, .iastore, 0, 0), (138, .iload_n 3, 0, 0), (139, .iconst 1, 1, 0), (140, .iload 8, 0, 0), (142, .ishl, 0, 0), (143, .iconst (-1), (-1), 0)],
  [(144, .ixor, 0, 0), (145, .iand, 0, 0), (146, .istore_n 3, 0, 0), (147, .iinc 6 1, 1, 0), (150, .goto (-106), 0, 44), (153, .return_, 0, 0)]]
def qp_k212 : List (List (Nat × Instr × Int32 × Nat)) := [
  [(0, .iload_n 0, 0, 0), (1, .iload_n 1, 0, 0), (2, .ishr, 0, 0), (3, .iconst 1, 1, 0), (4, .iand, 0, 0), (5, .iconst 1, 1, 0), (6, .if_icmp .ne 7, 0, 13), (9, .iconst 1, 1, 0), (10, .goto 4, 0, 14), (13, .iconst 0, 0, 0), (14, .ireturn, 0, 0)]]
def qp_k213 : List (List (Nat × Instr × Int32 × Nat)) := [
  [(0, .iload_n 1, 0, 0), (1, .invokestatic 93, 0, 1491), (4, .ifCond .eq 11, 0, 15), (7, .aload_n 0, 0, 0), (8, .iload_n 2, 0, 0), (9, .invokevirtual 184, 0, 1720), (12, .ifCond .ne 5, 0, 17), (15, .iconst (-1), (-1), 0)],
  [(16, .ireturn, 0, 0), (17, .aload_n 0, 0, 0), (18, .iload_n 1, 0, 0), (19, .invokevirtual 230, 0, 2080), (22, .istore_n 3, 0, 0), (23, .iload_n 3, 0, 0), (24, .ifCond .eq 5, 0, 29), (27, .iload_n 3, 0, 0), (28, .ireturn, 0, 0), (29, .iconst 0, 0, 0), (30, .istore 4, 0, 0)],
  [(32, .iconst 0, 0, 0), (33, .istore 5, 0, 0), (35, .iload 5, 0, 0), (37, .aload_n 0, 0, 0), (38, .invokevirtual 233, 0, 2090), (41, .if_icmp .ge 36, 0, 77), (44, .iload 4, 0, 0), (46, .aload_n 0, 0, 0), (47, .iload 5, 0, 0)],
  [(49, .iload_n 1, 0, 0), (50, .invokevirtual 237, 0, 2100), (53, .ifCond .eq 14, 0, 67), (56, .iconst 1, 1, 0), (57, .aload_n 0, 0, 0), (58, .getfield 63, 0, 1022), (61, .iload_n 2, 0, 0), (62, .iaload, 0, 0), (63, .ishl, 0, 0)],
  [(64, .goto 4, 0, 68), (67, .iconst 0, 0, 0), (68, .ior, 0, 0), (69, .istore 4, 0, 0), (71, .iinc 5 1, 1, 0), (74, .goto (-39), 0, 35), (77, .iload 4, 0, 0), (79, .ireturn, 0, 0)]]
def qp_k214 : List (List (Nat × Instr × Int32 × Nat)) := [
  [(0, .iload_n 1, 0, 0), (1, .invokestatic 93, 0, 1491), (4, .ifCond .ne 5, 0, 9), (7, .iconst (-1), (-1), 0), (8, .ireturn, 0, 0), (9, .aload_n 0, 0, 0), (10, .getfield 7, 0, 1000), (13, .iconst 0, 0, 0), (14, .iaload, 0, 0), (15, .ifCond .ne 6, 0, 21)],
  [(18, .bipush (-4), (-4), 0), (20, .ireturn, 0, 0), (21, .aload_n 0, 0, 0), (22, .iload_n 1, 0, 0), (23, .invokevirtual 230, 0, 2080), (26, .istore_n 2, 0, 0), (27, .iload_n 2, 0, 0), (28, .ifCond .eq 5, 0, 33), (31, .iload_n 2, 0, 0)],
  [(32, .ireturn, 0, 0), (33, .iconst 0, 0, 0), (34, .istore_n 3, 0, 0), (35, .iconst 0, 0, 0), (36, .istore 4, 0, 0), (38, .iload 4, 0, 0), (40, .bipush 24, 24, 0), (42, .if_icmp .ge 17, 0, 59), (45, .aload_n 0, 0, 0), (46, .getfield 66, 0, 1023)],
  [(49, .iload 4, 0, 0), (51, .iconst 0, 0, 0), (52, .iastore, 0, 0), (53, .iinc 4 1, 1, 0), (56, .goto (-18), 0, 38), (59, .iconst 0, 0, 0), (60, .istore 4, 0, 0), (62, .iload 4, 0, 0)],
  [(64, .aload_n 0, 0, 0), (65, .invokevirtual 233, 0, 2090), (68, .if_icmp .ge 63, 0, 131), (71, .aload_n 0, 0, 0), (72, .iload 4, 0, 0), (74, .iload_n 1, 0, 0), (75, .invokevirtual 237, 0, 2100), (78, .ifCond .eq 47, 0, 125)],
  [(81, .iinc 3 1, 1, 0), (84, .iconst 0, 0, 0), (85, .istore 5, 0, 0), (87, .iload 5, 0, 0), (89, .aload_n 0, 0, 0), (90, .getfield 7, 0, 1000), (93, .iconst 0, 0, 0), (94, .iaload, 0, 0), (95, .if_icmp .ge 30, 0, 125)],
  [(98, .aload_n 0, 0, 0), (99, .getfield 66, 0, 1023), (102, .iconst 4, 4, 0), (103, .iload 5, 0, 0), (105, .imul, 0, 0), (106, .aload_n 0, 0, 0), (107, .getfield 48, 0, 1016), (110, .iload 5, 0, 0)],
  [(112, .iaload, 0, 0), (113, .iadd, 0, 0), (114, .dup2, 0, 0), (115, .iaload, 0, 0), (116, .iconst 1, 1, 0), (117, .iadd, 0, 0), (118, .iastore, 0, 0), (119, .iinc 5 1, 1, 0), (122, .goto (-35), 0, 87), (125, .iinc 4 1, 1, 0)],
  [(128, .goto (-66), 0, 62), (131, .bipush (-9), (-9), 0), (133, .istore 4, 0, 0), (135, .ldc 243, 1000000, 0), (137, .istore 5, 0, 0), (139, .iconst 0, 0, 0), (140, .istore 6, 0, 0), (142, .iload 6, 0, 0)],
  [(144, .aload_n 0, 0, 0), (145, .getfield 7, 0, 1000), (148, .iconst 0, 0, 0), (149, .iaload, 0, 0), (150, .if_icmp .ge 99, 0, 249), (153, .iload_n 3, 0, 0), (154, .ifCond .le 95, 0, 249), (157, .iconst 0, 0, 0), (158, .istore 7, 0, 0)],
  [(160, .iconst 0, 0, 0), (161, .istore 8, 0, 0), (163, .iload 8, 0, 0), (165, .iconst 4, 4, 0), (166, .if_icmp .ge 45, 0, 211), (169, .aload_n 0, 0, 0), (170, .getfield 66, 0, 1023), (173, .iconst 4, 4, 0), (174, .iload 6, 0, 0)],
  [(176, .imul, 0, 0), (177, .iload 8, 0, 0), (179, .iadd, 0, 0), (180, .iaload, 0, 0), (181, .iload 7, 0, 0), (183, .if_icmp .le 18, 0, 201), (186, .aload_n 0, 0, 0), (187, .getfield 66, 0, 1023), (190, .iconst 4, 4, 0), (191, .iload 6, 0, 0)],
  [(193, .imul, 0, 0), (194, .iload 8, 0, 0), (196, .iadd, 0, 0), (197, .iaload, 0, 0), (198, .goto 5, 0, 203), (201, .iload 7, 0, 0), (203, .istore 7, 0, 0), (205, .iinc 8 1, 1, 0)],
  [(208, .goto (-45), 0, 163), (211, .iload 7, 0, 0), (213, .iload 5, 0, 0), (215, .if_icmp .ge 8, 0, 223), (218, .iload 6, 0, 0), (220, .goto 5, 0, 225), (223, .iload 4, 0, 0)],
  [(225, .istore 4, 0, 0), (227, .iload 7, 0, 0), (229, .iload 5, 0, 0), (231, .if_icmp .ge 8, 0, 239), (234, .iload 7, 0, 0), (236, .goto 5, 0, 241), (239, .iload 5, 0, 0)],
  [(241, .istore 5, 0, 0), (243, .iinc 6 1, 1, 0), (246, .goto (-104), 0, 142), (249, .iload 4, 0, 0), (251, .bipush (-9), (-9), 0), (253, .if_icmp .ne 7, 0, 260)],
  [(256, .iconst 0, 0, 0), (257, .goto 9, 0, 266), (260, .aload_n 0, 0, 0), (261, .iload 5, 0, 0), (263, .invokevirtual 105, 0, 1540), (266, .istore 6, 0, 0), (268, .iload 4, 0, 0), (270, .ireturn, 0, 0)]]
def qp_k215 : List (List (Nat × Instr × Int32 × Nat)) := [
  [(0, .iload_n 1, 0, 0), (1, .i2l, 0, 0), (2, .lconst 0, 0, 0), (3, .ldc2_w 205, 0, 0), (6, .invokestatic 87, 0, 1501), (9, .ifCond .ne 5, 0, 14), (12, .iconst (-1), (-1), 0), (13, .ireturn, 0, 0), (14, .aload_n 0, 0, 0), (15, .getfield 7, 0, 1000)],
  [(18, .iconst 0, 0, 0), (19, .iaload, 0, 0), (20, .ifCond .ne 6, 0, 26), (23, .bipush (-4), (-4), 0), (25, .ireturn, 0, 0), (26, .iconst 0, 0, 0), (27, .istore_n 2, 0, 0), (28, .bipush (-9), (-9), 0), (30, .istore_n 3, 0, 0), (31, .iconst 0, 0, 0)],
  [(32, .istore 4, 0, 0), (34, .iload 4, 0, 0), (36, .iconst 1, 1, 0), (37, .aload_n 0, 0, 0), (38, .getfield 7, 0, 1000), (41, .iconst 0, 0, 0), (42, .iaload, 0, 0), (43, .ishl, 0, 0), (44, .if_icmp .ge 33, 0, 77), (47, .aload_n 0, 0, 0)],
  [(48, .iload 4, 0, 0), (50, .invokevirtual 244, 0, 2160), (53, .iload_n 1, 0, 0), (54, .if_icmp .ne 17, 0, 71), (57, .iload_n 2, 0, 0), (58, .ifCond .ne 8, 0, 66), (61, .iload 4, 0, 0), (63, .goto 4, 0, 67)],
  [(66, .iload_n 3, 0, 0), (67, .istore_n 3, 0, 0), (68, .iinc 2 1, 1, 0), (71, .iinc 4 1, 1, 0), (74, .goto (-40), 0, 34), (77, .aload_n 0, 0, 0), (78, .iload_n 2, 0, 0), (79, .i2l, 0, 0)],
  [(80, .putfield 240, 0, 1010), (83, .aload_n 0, 0, 0), (84, .lconst 1, 0, 0), (85, .putfield 35, 0, 1011), (88, .aload_n 0, 0, 0), (89, .iload_n 3, 0, 0), (90, .invokevirtual 105, 0, 1540), (93, .ireturn, 0, 0)]]
def qp_k216 : List (List (Nat × Instr × Int32 × Nat)) := [
  [(0, .iconst 0, 0, 0), (1, .istore_n 2, 0, 0), (2, .iconst 0, 0, 0), (3, .istore_n 3, 0, 0), (4, .iload_n 3, 0, 0), (5, .aload_n 0, 0, 0), (6, .getfield 7, 0, 1000), (9, .iconst 0, 0, 0), (10, .iaload, 0, 0), (11, .if_icmp .ge 65, 0, 76), (14, .aload_n 0, 0, 0), (15, .getfield 7, 0, 1000)],
  [(18, .bipush 69, 69, 0), (20, .iload_n 3, 0, 0), (21, .iadd, 0, 0), (22, .iaload, 0, 0), (23, .istore 4, 0, 0), (25, .iload_n 2, 0, 0), (26, .iload_n 1, 0, 0), (27, .iload 4, 0, 0), (29, .invokestatic 224, 0, 2121)],
  [(32, .ifCond .eq 35, 0, 67), (35, .aload_n 0, 0, 0), (36, .getfield 7, 0, 1000), (39, .iconst 2, 2, 0), (40, .iload 4, 0, 0), (42, .iadd, 0, 0), (43, .iaload, 0, 0), (44, .iload_n 3, 0, 0), (45, .aload_n 0, 0, 0), (46, .getfield 7, 0, 1000)],
  [(49, .iconst 0, 0, 0), (50, .iaload, 0, 0), (51, .iconst 1, 1, 0), (52, .isub, 0, 0), (53, .if_icmp .ne 7, 0, 60), (56, .iconst 1, 1, 0), (57, .goto 4, 0, 61), (60, .iconst 0, 0, 0), (61, .invokestatic 167, 0, 1771)],
  [(64, .goto 4, 0, 68), (67, .iconst 0, 0, 0), (68, .iadd, 0, 0), (69, .istore_n 2, 0, 0), (70, .iinc 3 1, 1, 0), (73, .goto (-69), 0, 4), (76, .iload_n 2, 0, 0), (77, .ireturn, 0, 0)]]
def qp_k217 : List (List (Nat × Instr × Int32 × Nat)) := [
  [(0, .iload_n 1, 0, 0), (1, .i2l, 0, 0), (2, .lconst 0, 0, 0), (3, .ldc2_w 205, 0, 0), (6, .invokestatic 87, 0, 1501), (9, .ifCond .ne 5, 0, 14), (12, .iconst (-1), (-1), 0), (13, .ireturn, 0, 0), (14, .aload_n 0, 0, 0), (15, .getfield 7, 0, 1000)],
  [(18, .iconst 0, 0, 0), (19, .iaload, 0, 0), (20, .ifCond .ne 6, 0, 26), (23, .bipush (-4), (-4), 0), (25, .ireturn, 0, 0), (26, .iconst 1, 1, 0), (27, .aload_n 0, 0, 0), (28, .getfield 7, 0, 1000), (31, .iconst 0, 0, 0)],
  [(32, .iaload, 0, 0), (33, .ishl, 0, 0), (34, .iconst 1, 1, 0), (35, .isub, 0, 0), (36, .istore_n 2, 0, 0), (37, .iload_n 2, 0, 0), (38, .istore_n 3, 0, 0), (39, .iconst 0, 0, 0), (40, .istore 4, 0, 0), (42, .iconst 0, 0, 0), (43, .istore 5, 0, 0), (45, .iconst 0, 0, 0), (46, .istore 6, 0, 0)],
  [(48, .iload 6, 0, 0), (50, .iload_n 2, 0, 0), (51, .if_icmp .gt 34, 0, 85), (54, .aload_n 0, 0, 0), (55, .iload 6, 0, 0), (57, .invokevirtual 244, 0, 2160), (60, .iload_n 1, 0, 0), (61, .if_icmp .ne 18, 0, 79)],
  [(64, .iconst 1, 1, 0), (65, .istore 5, 0, 0), (67, .iload_n 3, 0, 0), (68, .iload 6, 0, 0), (70, .iand, 0, 0), (71, .istore_n 3, 0, 0), (72, .iload 4, 0, 0), (74, .iload 6, 0, 0), (76, .ior, 0, 0), (77, .istore 4, 0, 0), (79, .iinc 6 1, 1, 0)],
  [(82, .goto (-34), 0, 48), (85, .iload 5, 0, 0), (87, .ifCond .ne 9, 0, 96), (90, .aload_n 0, 0, 0), (91, .iconst 4, 4, 0), (92, .invokevirtual 97, 0, 1510), (95, .ireturn, 0, 0)],
  [(96, .aload_n 0, 0, 0), (97, .iload_n 2, 0, 0), (98, .iload 4, 0, 0), (100, .iconst (-1), (-1), 0), (101, .ixor, 0, 0), (102, .iand, 0, 0), (103, .invokevirtual 105, 0, 1540), (106, .istore 6, 0, 0), (108, .iload_n 3, 0, 0), (109, .ireturn, 0, 0)]]
def qp_k218 : List (List (Nat × Instr × Int32 × Nat)) := [
  [(0, .aload_n 0, 0, 0), (1, .iload_n 1, 0, 0), (2, .invokevirtual 184, 0, 1720), (5, .ifCond .eq 28, 0, 33), (8, .aload_n 0, 0, 0), (9, .iload_n 2, 0, 0), (10, .invokevirtual 184, 0, 1720), (13, .ifCond .eq 20, 0, 33)],
  [(16, .iload_n 1, 0, 0), (17, .iload_n 2, 0, 0), (18, .if_icmp .eq 15, 0, 33), (21, .iload_n 3, 0, 0), (22, .i2l, 0, 0), (23, .lconst 0, 0, 0), (24, .ldc2_w 207, 0, 0), (27, .invokestatic 87, 0, 1501), (30, .ifCond .ne 5, 0, 35)],
  [(33, .iconst (-1), (-1), 0), (34, .ireturn, 0, 0), (35, .iconst 2, 2, 0), (36, .iload_n 3, 0, 0), (37, .imul, 0, 0), (38, .istore 4, 0, 0), (40, .iconst 0, 0, 0), (41, .istore 5, 0, 0), (43, .iconst 0, 0, 0), (44, .istore 6, 0, 0), (46, .iload 6, 0, 0)],
  [(48, .iload 4, 0, 0), (50, .if_icmp .ge 29, 0, 79), (53, .aload_n 0, 0, 0), (54, .getfield 69, 0, 1024), (57, .iload 6, 0, 0), (59, .iconst 0, 0, 0), (60, .iastore, 0, 0), (61, .aload_n 0, 0, 0), (62, .getfield 72, 0, 1025)],
  [(65, .iload 6, 0, 0), (67, .iload 6, 0, 0), (69, .invokestatic 248, 0, 2191), (72, .iastore, 0, 0), (73, .iinc 6 1, 1, 0), (76, .goto (-30), 0, 46), (79, .iconst 1, 1, 0)],
  [(80, .istore 6, 0, 0), (82, .iload 6, 0, 0), (84, .ifCond .eq 191, 0, 275), (87, .aload_n 0, 0, 0), (88, .iload_n 1, 0, 0), (89, .iload_n 2, 0, 0), (90, .iload 4, 0, 0), (92, .invokevirtual 251, 0, 2200), (95, .istore 5, 0, 0)],
  [(97, .iload 4, 0, 0), (99, .iconst 1, 1, 0), (100, .isub, 0, 0), (101, .istore 7, 0, 0), (103, .iconst 1, 1, 0), (104, .istore 8, 0, 0), (106, .iload 7, 0, 0), (108, .ifCond .lt 152, 0, 260), (111, .iload 8, 0, 0)],
  [(113, .ifCond .eq 147, 0, 260), (116, .iload 7, 0, 0), (118, .iconst 2, 2, 0), (119, .irem, 0, 0), (120, .ifCond .ne 23, 0, 143), (123, .iload 5, 0, 0), (125, .aload_n 0, 0, 0), (126, .getfield 72, 0, 1025)],
  [(129, .iload 7, 0, 0), (131, .iaload, 0, 0), (132, .if_icmp .le 7, 0, 139), (135, .iconst 1, 1, 0), (136, .goto 24, 0, 160), (139, .iconst 0, 0, 0), (140, .goto 20, 0, 160), (143, .iload 5, 0, 0)],
  [(145, .aload_n 0, 0, 0), (146, .getfield 72, 0, 1025), (149, .iload 7, 0, 0), (151, .iaload, 0, 0), (152, .if_icmp .ge 7, 0, 159), (155, .iconst 1, 1, 0), (156, .goto 4, 0, 160), (159, .iconst 0, 0, 0)],
  [(160, .istore 9, 0, 0), (162, .aload_n 0, 0, 0), (163, .getfield 72, 0, 1025), (166, .iload 7, 0, 0), (168, .iload 9, 0, 0), (170, .ifCond .eq 8, 0, 178), (173, .iload 5, 0, 0), (175, .goto 10, 0, 185)],
  [(178, .aload_n 0, 0, 0), (179, .getfield 72, 0, 1025), (182, .iload 7, 0, 0), (184, .iaload, 0, 0), (185, .iastore, 0, 0), (186, .aload_n 0, 0, 0), (187, .getfield 69, 0, 1024), (190, .iload 7, 0, 0)],
  [(192, .dup2, 0, 0), (193, .iaload, 0, 0), (194, .iconst 1, 1, 0), (195, .iadd, 0, 0), (196, .iastore, 0, 0), (197, .aload_n 0, 0, 0), (198, .getfield 69, 0, 1024), (201, .iload 7, 0, 0), (203, .iaload, 0, 0), (204, .aload_n 0, 0, 0), (205, .getfield 7, 0, 1000)],
  [(208, .iconst 0, 0, 0), (209, .iaload, 0, 0), (210, .if_icmp .ne 7, 0, 217), (213, .iconst 1, 1, 0), (214, .goto 4, 0, 218), (217, .iconst 0, 0, 0), (218, .istore 8, 0, 0), (220, .iload 8, 0, 0), (222, .ifCond .eq 35, 0, 257)],
  [(225, .aload_n 0, 0, 0), (226, .getfield 72, 0, 1025), (229, .iload 7, 0, 0), (231, .iaload, 0, 0), (232, .istore 5, 0, 0), (234, .aload_n 0, 0, 0), (235, .getfield 69, 0, 1024), (238, .iload 7, 0, 0)],
  [(240, .iconst 0, 0, 0), (241, .iastore, 0, 0), (242, .aload_n 0, 0, 0), (243, .getfield 72, 0, 1025), (246, .iload 7, 0, 0), (248, .iload 7, 0, 0), (250, .invokestatic 248, 0, 2191), (253, .iastore, 0, 0), (254, .iinc 7 (-1), (-1), 0)],
  [(257, .goto (-151), 0, 106), (260, .iload 7, 0, 0), (262, .ifCond .lt 7, 0, 269), (265, .iconst 1, 1, 0), (266, .goto 4, 0, 270), (269, .iconst 0, 0, 0), (270, .istore 6, 0, 0)],
  [(272, .goto (-190), 0, 82), (275, .aload_n 0, 0, 0), (276, .iload 5, 0, 0), (278, .invokevirtual 105, 0, 1540), (281, .ireturn, 0, 0)]]
def qp_k219 : List (List (Nat × Instr × Int32 × Nat)) := [
  [(0, .iload_n 0, 0, 0), (1, .iconst 2, 2, 0), (2, .irem, 0, 0), (3, .ifCond .ne 8, 0, 11), (6, .ldc 247, (-1000000), 0), (8, .goto 5, 0, 13), (11, .ldc 243, 1000000, 0), (13, .ireturn, 0, 0)]]
def qp_k220 : List (List (Nat × Instr × Int32 × Nat)) := [
  [(0, .aload_n 0, 0, 0), (1, .invokevirtual 212, 0, 2020), (4, .iconst 0, 0, 0), (5, .istore 4, 0, 0), (7, .iload 4, 0, 0), (9, .iload_n 3, 0, 0), (10, .if_icmp .ge 43, 0, 53), (13, .aload_n 0, 0, 0), (14, .getfield 45, 0, 1015)],
  [(17, .bipush 69, 69, 0), (19, .aload_n 0, 0, 0), (20, .getfield 7, 0, 1000), (23, .iconst 0, 0, 0), (24, .iaload, 0, 0), (25, .iload 4, 0, 0), (27, .iconst 2, 2, 0), (28, .irem, 0, 0), (29, .ifCond .ne 7, 0, 36)],
  [(32, .iload_n 1, 0, 0), (33, .goto 4, 0, 37), (36, .iload_n 2, 0, 0), (37, .aload_n 0, 0, 0), (38, .getfield 69, 0, 1024), (41, .iload 4, 0, 0), (43, .iaload, 0, 0), (44, .invokestatic 147, 0, 1891), (47, .iinc 4 1, 1, 0)],
  [(50, .goto (-43), 0, 7), (53, .aload_n 0, 0, 0), (54, .aload_n 0, 0, 0), (55, .getfield 45, 0, 1015), (58, .bipush 69, 69, 0), (60, .aload_n 0, 0, 0), (61, .getfield 7, 0, 1000)],
  [(64, .iconst 0, 0, 0), (65, .iaload, 0, 0), (66, .invokevirtual 171, 0, 1750), (69, .aload_n 0, 0, 0), (70, .getfield 48, 0, 1016), (73, .iload_n 1, 0, 0), (74, .iaload, 0, 0), (75, .aload_n 0, 0, 0), (76, .getfield 48, 0, 1016), (79, .iload_n 2, 0, 0)],
  [(80, .iaload, 0, 0), (81, .isub, 0, 0), (82, .ireturn, 0, 0)]]
def qp_k221 : List (List (Nat × Instr × Int32 × Nat)) := [
  [(0, .aload_n 0, 0, 0), (1, .iload_n 1, 0, 0), (2, .invokevirtual 184, 0, 1720), (5, .ifCond .eq 15, 0, 20), (8, .iload_n 2, 0, 0), (9, .i2l, 0, 0), (10, .lconst 0, 0, 0), (11, .ldc2_w 255, 0, 0), (14, .invokestatic 87, 0, 1501)],
  [(17, .ifCond .ne 5, 0, 22), (20, .iconst (-1), (-1), 0), (21, .ireturn, 0, 0), (22, .aload_n 0, 0, 0), (23, .iload_n 1, 0, 0), (24, .iload_n 2, 0, 0), (25, .invokevirtual 261, 0, 2220), (28, .iconst 1, 1, 0), (29, .ireturn, 0, 0)]]
def qp_k222 : List (List (Nat × Instr × Int32 × Nat)) := [
  [(0, .lconst 0, 0, 0), (1, .lstore_n 3, 0, 0), (2, .lconst 1, 0, 0), (3, .lstore 5, 0, 0), (5, .iconst 0, 0, 0), (6, .istore 7, 0, 0), (8, .iload 7, 0, 0), (10, .aload_n 0, 0, 0), (11, .getfield 7, 0, 1000), (14, .iconst 0, 0, 0), (15, .iaload, 0, 0)],
  [(16, .if_icmp .ge 17, 0, 33), (19, .lload 5, 0, 0), (21, .ldc2_w 255, 0, 0), (24, .lmul, 0, 0), (25, .lstore 5, 0, 0), (27, .iinc 7 1, 1, 0), (30, .goto (-22), 0, 8)],
  [(33, .iconst 0, 0, 0), (34, .istore 7, 0, 0), (36, .iload 7, 0, 0), (38, .iconst 1, 1, 0), (39, .aload_n 0, 0, 0), (40, .getfield 7, 0, 1000), (43, .iconst 0, 0, 0), (44, .iaload, 0, 0), (45, .ishl, 0, 0), (46, .if_icmp .ge 164, 0, 210)],
  [(49, .lconst 1, 0, 0), (50, .lstore 8, 0, 0), (52, .iconst 0, 0, 0), (53, .istore 10, 0, 0), (55, .iconst 0, 0, 0), (56, .istore 11, 0, 0), (58, .iload 11, 0, 0), (60, .aload_n 0, 0, 0), (61, .getfield 7, 0, 1000)],
  [(64, .iconst 0, 0, 0), (65, .iaload, 0, 0), (66, .if_icmp .ge 68, 0, 134), (69, .aload_n 0, 0, 0), (70, .getfield 7, 0, 1000), (73, .bipush 69, 69, 0), (75, .iload 11, 0, 0), (77, .iadd, 0, 0), (78, .iaload, 0, 0), (79, .istore 12, 0, 0)],
  [(81, .lload 8, 0, 0), (83, .iload 7, 0, 0), (85, .iload 12, 0, 0), (87, .invokestatic 224, 0, 2121), (90, .ifCond .eq 8, 0, 98), (93, .iload_n 2, 0, 0), (94, .i2l, 0, 0), (95, .goto 8, 0, 103)],
  [(98, .bipush 12, 12, 0), (100, .iload_n 2, 0, 0), (101, .isub, 0, 0), (102, .i2l, 0, 0), (103, .lmul, 0, 0), (104, .lstore 8, 0, 0), (106, .iload 7, 0, 0), (108, .iload 12, 0, 0), (110, .invokestatic 224, 0, 2121)],
  [(113, .ifCond .ne 15, 0, 128), (116, .aload_n 0, 0, 0), (117, .getfield 75, 0, 1026), (120, .iload 10, 0, 0), (122, .iload 12, 0, 0), (124, .iastore, 0, 0), (125, .iinc 10 1, 1, 0)],
  [(128, .iinc 11 1, 1, 0), (131, .goto (-73), 0, 58), (134, .aload_n 0, 0, 0), (135, .aload_n 0, 0, 0), (136, .getfield 75, 0, 1026), (139, .iconst 0, 0, 0), (140, .iload 10, 0, 0), (142, .invokevirtual 171, 0, 1750)],
  [(145, .lload_n 3, 0, 0), (146, .iload_n 1, 0, 0), (147, .bipush (-9), (-9), 0), (149, .if_icmp .ne 14, 0, 163), (152, .lload 8, 0, 0), (154, .aload_n 0, 0, 0), (155, .getfield 161, 0, 1020), (158, .i2l, 0, 0), (159, .lmul, 0, 0)],
  [(160, .goto 42, 0, 202), (163, .iload 7, 0, 0), (165, .iload_n 1, 0, 0), (166, .invokestatic 224, 0, 2121), (169, .ifCond .ne 32, 0, 201), (172, .aload_n 0, 0, 0), (173, .getfield 57, 0, 1019)],
  [(176, .iload_n 1, 0, 0), (177, .iaload, 0, 0), (178, .ifCond .le 23, 0, 201), (181, .aload_n 0, 0, 0), (182, .getfield 48, 0, 1016), (185, .iload_n 1, 0, 0), (186, .iaload, 0, 0), (187, .aload_n 0, 0, 0), (188, .getfield 57, 0, 1019), (191, .iload_n 1, 0, 0)],
  [(192, .iaload, 0, 0), (193, .if_icmp .ne 8, 0, 201), (196, .lload 8, 0, 0), (198, .goto 4, 0, 202), (201, .lconst 0, 0, 0), (202, .ladd, 0, 0), (203, .lstore_n 3, 0, 0), (204, .iinc 7 1, 1, 0), (207, .goto (-171), 0, 36)],
  [(210, .aload_n 0, 0, 0), (211, .lload_n 3, 0, 0), (212, .lload 5, 0, 0), (214, .invokevirtual 257, 0, 2230), (217, .return_, 0, 0)]]
def qp_k223 : List (List (Nat × Instr × Int32 × Nat)) := [
  [(0, .lload_n 1, 0, 0), (1, .lstore 5, 0, 0), (3, .lload_n 3, 0, 0), (4, .lstore 7, 0, 0), (6, .lload 7, 0, 0), (8, .lconst 0, 0, 0), (9, .lcmp, 0, 0), (10, .ifCond .eq 21, 0, 31), (13, .lload 5, 0, 0), (15, .lload 7, 0, 0)],
  [(17, .lrem, 0, 0), (18, .lstore 9, 0, 0), (20, .lload 7, 0, 0), (22, .lstore 5, 0, 0), (24, .lload 9, 0, 0), (26, .lstore 7, 0, 0), (28, .goto (-22), 0, 6), (31, .aload_n 0, 0, 0)],
  [(32, .lload_n 1, 0, 0), (33, .lload 5, 0, 0), (35, .ldiv, 0, 0), (36, .putfield 240, 0, 1010), (39, .aload_n 0, 0, 0), (40, .lload_n 3, 0, 0), (41, .lload 5, 0, 0), (43, .ldiv, 0, 0), (44, .putfield 35, 0, 1011), (47, .return_, 0, 0)]]
def qp_k224 : List (List (Nat × Instr × Int32 × Nat)) := [
  [(0, .iload_n 1, 0, 0), (1, .i2l, 0, 0), (2, .lconst 0, 0, 0), (3, .ldc2_w 255, 0, 0), (6, .invokestatic 87, 0, 1501), (9, .ifCond .ne 5, 0, 14), (12, .iconst (-1), (-1), 0), (13, .ireturn, 0, 0), (14, .aload_n 0, 0, 0), (15, .getfield 7, 0, 1000)],
  [(18, .iconst 0, 0, 0), (19, .iaload, 0, 0), (20, .ifCond .ne 6, 0, 26), (23, .bipush (-4), (-4), 0), (25, .ireturn, 0, 0), (26, .aload_n 0, 0, 0), (27, .bipush (-9), (-9), 0), (29, .iload_n 1, 0, 0), (30, .invokevirtual 261, 0, 2220)],
  [(33, .iconst 1, 1, 0), (34, .ireturn, 0, 0)]]
def qp_k225 : List (List (Nat × Instr × Int32 × Nat)) := [
  [(0, .iload_n 1, 0, 0), (1, .i2l, 0, 0), (2, .lconst 1, 0, 0), (3, .ldc2_w 205, 0, 0), (6, .invokestatic 87, 0, 1501), (9, .ifCond .eq 15, 0, 24), (12, .iload_n 2, 0, 0), (13, .i2l, 0, 0), (14, .lconst 1, 0, 0), (15, .ldc2_w 271, 0, 0)],
  [(18, .invokestatic 87, 0, 1501), (21, .ifCond .ne 5, 0, 26), (24, .iconst (-1), (-1), 0), (25, .ireturn, 0, 0), (26, .aload_n 0, 0, 0), (27, .getfield 7, 0, 1000), (30, .iconst 0, 0, 0), (31, .iaload, 0, 0)],
  [(32, .ifCond .ne 6, 0, 38), (35, .bipush (-4), (-4), 0), (37, .ireturn, 0, 0), (38, .aload_n 0, 0, 0), (39, .getfield 7, 0, 1000), (42, .bipush 14, 14, 0), (44, .iaload, 0, 0), (45, .iload_n 1, 0, 0), (46, .iadd, 0, 0), (47, .bipush 40, 40, 0)],
  [(49, .if_icmp .le 6, 0, 55), (52, .bipush (-2), (-2), 0), (54, .ireturn, 0, 0), (55, .iload_n 2, 0, 0), (56, .i2l, 0, 0), (57, .lstore_n 3, 0, 0), (58, .iconst 0, 0, 0), (59, .istore 5, 0, 0), (61, .iload 5, 0, 0), (63, .iload_n 1, 0, 0)],
  [(64, .if_icmp .ge 30, 0, 94), (67, .lload_n 3, 0, 0), (68, .ldc2_w 273, 0, 0), (71, .lmul, 0, 0), (72, .ldc2_w 275, 0, 0), (75, .lrem, 0, 0), (76, .lstore_n 3, 0, 0), (77, .aload_n 0, 0, 0), (78, .aload_n 0, 0, 0), (79, .lload_n 3, 0, 0)],
  [(80, .invokevirtual 277, 0, 2260), (83, .invokevirtual 199, 0, 1850), (86, .istore 6, 0, 0), (88, .iinc 5 1, 1, 0), (91, .goto (-30), 0, 61), (94, .aload_n 0, 0, 0), (95, .invokevirtual 281, 0, 2270)],
  [(98, .ireturn, 0, 0)]]
def qp_k226 : List (List (Nat × Instr × Int32 × Nat)) := [
  [(0, .lload_n 1, 0, 0), (1, .ldc2_w 265, 0, 0), (4, .ldiv, 0, 0), (5, .ldc2_w 265, 0, 0), (8, .lrem, 0, 0), (9, .l2i, 0, 0), (10, .istore_n 3, 0, 0), (11, .lload_n 1, 0, 0), (12, .ldc2_w 267, 0, 0), (15, .ldiv, 0, 0)],
  [(16, .lstore 4, 0, 0), (18, .iload_n 3, 0, 0), (19, .bipush 6, 6, 0), (21, .if_icmp .ge 71, 0, 92), (24, .lload_n 1, 0, 0), (25, .aload_n 0, 0, 0), (26, .getfield 7, 0, 1000), (29, .iconst 0, 0, 0), (30, .iaload, 0, 0), (31, .i2l, 0, 0)],
  [(32, .lrem, 0, 0), (33, .l2i, 0, 0), (34, .istore 6, 0, 0), (36, .lload 4, 0, 0), (38, .aload_n 0, 0, 0), (39, .getfield 7, 0, 1000), (42, .iconst 0, 0, 0), (43, .iaload, 0, 0), (44, .i2l, 0, 0), (45, .lrem, 0, 0), (46, .l2i, 0, 0), (47, .istore 7, 0, 0)],
  [(49, .aload_n 0, 0, 0), (50, .getfield 7, 0, 1000), (53, .bipush 69, 69, 0), (55, .iload 7, 0, 0), (57, .iadd, 0, 0), (58, .iaload, 0, 0), (59, .iload 6, 0, 0), (61, .if_icmp .eq 15, 0, 76)],
  [(64, .aload_n 0, 0, 0), (65, .getfield 7, 0, 1000), (68, .bipush 56, 56, 0), (70, .iaload, 0, 0), (71, .bipush 12, 12, 0), (73, .if_icmp .ne 7, 0, 80), (76, .iconst 0, 0, 0), (77, .goto 14, 0, 91)],
  [(80, .bipush 100, 100, 0), (82, .bipush 8, 8, 0), (84, .iload 6, 0, 0), (86, .imul, 0, 0), (87, .iadd, 0, 0), (88, .iload 7, 0, 0), (90, .iadd, 0, 0), (91, .ireturn, 0, 0), (92, .iload_n 3, 0, 0), (93, .bipush 7, 7, 0), (95, .if_icmp .ne 17, 0, 112)],
  [(98, .sipush 300, 300, 0), (101, .lload 4, 0, 0), (103, .ldc2_w 269, 0, 0), (106, .lrem, 0, 0), (107, .l2i, 0, 0), (108, .iadd, 0, 0), (109, .goto 33, 0, 142)],
  [(112, .aload_n 0, 0, 0), (113, .getfield 7, 0, 1000), (116, .bipush 56, 56, 0), (118, .iaload, 0, 0), (119, .ifCond .ne 7, 0, 126), (122, .iconst 0, 0, 0), (123, .goto 19, 0, 142), (126, .sipush 200, 200, 0)],
  [(129, .lload 4, 0, 0), (131, .aload_n 0, 0, 0), (132, .getfield 7, 0, 1000), (135, .bipush 56, 56, 0), (137, .iaload, 0, 0), (138, .i2l, 0, 0), (139, .lrem, 0, 0), (140, .l2i, 0, 0), (141, .iadd, 0, 0), (142, .ireturn, 0, 0)]]
def qp_k227 : List (List (Nat × Instr × Int32 × Nat)) := [
  [(0, .iconst 0, 0, 0), (1, .istore_n 1, 0, 0), (2, .aload_n 0, 0, 0), (3, .invokevirtual 178, 0, 1740), (6, .iconst 0, 0, 0), (7, .istore_n 2, 0, 0), (8, .iload_n 2, 0, 0), (9, .aload_n 0, 0, 0), (10, .getfield 7, 0, 1000), (13, .iconst 0, 0, 0), (14, .iaload, 0, 0), (15, .if_icmp .ge 18, 0, 33)],
  [(18, .iload_n 1, 0, 0), (19, .aload_n 0, 0, 0), (20, .getfield 48, 0, 1016), (23, .iload_n 2, 0, 0), (24, .iaload, 0, 0), (25, .iadd, 0, 0), (26, .istore_n 1, 0, 0), (27, .iinc 2 1, 1, 0), (30, .goto (-22), 0, 8)],
  [(33, .iload_n 1, 0, 0), (34, .ireturn, 0, 0)]]
def qp_k228 : List (List (Nat × Instr × Int32 × Nat)) := [
  [(0, .aload_n 0, 0, 0), (1, .getfield 82, 0, 1009), (4, .ireturn, 0, 0)]]
def qp_k229 : List (List (Nat × Instr × Int32 × Nat)) := [
  [(0, .aload_n 0, 0, 0), (1, .getfield 240, 0, 1010), (4, .lreturn, 0, 0)]]
def qp_k230 : List (List (Nat × Instr × Int32 × Nat)) := [
  [(0, .aload_n 0, 0, 0), (1, .getfield 35, 0, 1011), (4, .lreturn, 0, 0)]]
def qp_k231 : List (List (Nat × Instr × Int32 × Nat)) := [
  [(0, .iload_n 1, 0, 0), (1, .i2l, 0, 0), (2, .lconst 0, 0, 0), (3, .ldc2_w 294, 0, 0), (6, .invokestatic 87, 0, 1501), (9, .ifCond .eq 11, 0, 20), (12, .aload_n 0, 0, 0), (13, .iload_n 1, 0, 0), (14, .invokevirtual 296, 0, 2320)],
  [(17, .goto 4, 0, 21), (20, .iconst (-1), (-1), 0), (21, .ireturn, 0, 0)]]
def qp_k232 : List (List (Nat × Instr × Int32 × Nat)) := [
  [(0, .iload_n 1, 0, 0), (1, .tableswitch 138 0 10 #[59, 66, 74, 82, 90, 96, 101, 107, 113, 119, 129], 0, 59)],
  [],
  [],
  [(60, .aload_n 0, 0, 0), (61, .getfield 7, 0, 1000)],
  [(64, .iconst 0, 0, 0), (65, .iaload, 0, 0), (66, .ireturn, 0, 0), (67, .aload_n 0, 0, 0), (68, .getfield 7, 0, 1000), (71, .bipush 55, 55, 0), (73, .iaload, 0, 0), (74, .ireturn, 0, 0), (75, .aload_n 0, 0, 0), (76, .getfield 7, 0, 1000), (79, .bipush 56, 56, 0)],
  [(81, .iaload, 0, 0), (82, .ireturn, 0, 0), (83, .aload_n 0, 0, 0), (84, .getfield 7, 0, 1000), (87, .bipush 14, 14, 0), (89, .iaload, 0, 0), (90, .ireturn, 0, 0), (91, .aload_n 0, 0, 0), (92, .iconst 1, 1, 0), (93, .invokevirtual 284, 0, 2330)],
  [(96, .ireturn, 0, 0), (97, .aload_n 0, 0, 0), (98, .invokevirtual 281, 0, 2270), (101, .ireturn, 0, 0), (102, .aload_n 0, 0, 0), (103, .iconst 0, 0, 0), (104, .invokevirtual 284, 0, 2330), (107, .ireturn, 0, 0), (108, .aload_n 0, 0, 0), (109, .iconst 1, 1, 0), (110, .invokevirtual 288, 0, 2340)],
  [(113, .ireturn, 0, 0), (114, .aload_n 0, 0, 0), (115, .iconst 2, 2, 0), (116, .invokevirtual 288, 0, 2340), (119, .ireturn, 0, 0), (120, .aload_n 0, 0, 0), (121, .getfield 23, 0, 1004), (124, .bipush 6, 6, 0), (126, .invokestatic 291, 0, 2351)],
  [(129, .ireturn, 0, 0), (130, .aload_n 0, 0, 0), (131, .getfield 29, 0, 1006), (134, .iconst 4, 4, 0), (135, .invokestatic 291, 0, 2351), (138, .ireturn, 0, 0), (139, .aload_n 0, 0, 0), (140, .getfield 16, 0, 1002), (143, .iconst 0, 0, 0)],
  [(144, .baload, 0, 0), (145, .ifCond .eq 7, 0, 152), (148, .iconst 1, 1, 0), (149, .goto 4, 0, 153), (152, .iconst 0, 0, 0), (153, .aload_n 0, 0, 0), (154, .getfield 16, 0, 1002), (157, .iconst 1, 1, 0), (158, .baload, 0, 0), (159, .ifCond .eq 7, 0, 166)],
  [(162, .iconst 1, 1, 0), (163, .goto 4, 0, 167), (166, .iconst 0, 0, 0), (167, .iadd, 0, 0), (168, .aload_n 0, 0, 0), (169, .getfield 16, 0, 1002), (172, .iconst 2, 2, 0), (173, .baload, 0, 0), (174, .ifCond .eq 7, 0, 181)],
  [(177, .iconst 1, 1, 0), (178, .goto 4, 0, 182), (181, .iconst 0, 0, 0), (182, .iadd, 0, 0), (183, .ireturn, 0, 0)]]
def qp_k233 : List (List (Nat × Instr × Int32 × Nat)) := [
  [(0, .iconst 0, 0, 0), (1, .istore_n 2, 0, 0), (2, .aload_n 0, 0, 0), (3, .invokevirtual 178, 0, 1740), (6, .iconst 0, 0, 0), (7, .istore_n 3, 0, 0), (8, .iload_n 3, 0, 0), (9, .aload_n 0, 0, 0), (10, .getfield 7, 0, 1000), (13, .iconst 0, 0, 0), (14, .iaload, 0, 0), (15, .if_icmp .ge 85, 0, 100)],
  [(18, .iload_n 1, 0, 0), (19, .ifCond .eq 29, 0, 48), (22, .aload_n 0, 0, 0), (23, .getfield 51, 0, 1017), (26, .iload_n 3, 0, 0), (27, .iaload, 0, 0), (28, .aload_n 0, 0, 0), (29, .getfield 7, 0, 1000)],
  [(32, .bipush 8, 8, 0), (34, .iload_n 3, 0, 0), (35, .iadd, 0, 0), (36, .iaload, 0, 0), (37, .if_icmp .le 7, 0, 44), (40, .iconst 1, 1, 0), (41, .goto 36, 0, 77), (44, .iconst 0, 0, 0), (45, .goto 32, 0, 77)],
  [(48, .aload_n 0, 0, 0), (49, .getfield 57, 0, 1019), (52, .iload_n 3, 0, 0), (53, .iaload, 0, 0), (54, .ifCond .le 22, 0, 76), (57, .aload_n 0, 0, 0), (58, .getfield 48, 0, 1016), (61, .iload_n 3, 0, 0), (62, .iaload, 0, 0), (63, .aload_n 0, 0, 0)],
  [(64, .getfield 57, 0, 1019), (67, .iload_n 3, 0, 0), (68, .iaload, 0, 0), (69, .if_icmp .ne 7, 0, 76), (72, .iconst 1, 1, 0), (73, .goto 4, 0, 77), (76, .iconst 0, 0, 0), (77, .istore 4, 0, 0), (79, .iload_n 2, 0, 0)],
  [(80, .iload 4, 0, 0), (82, .ifCond .eq 9, 0, 91), (85, .iconst 1, 1, 0), (86, .iload_n 3, 0, 0), (87, .ishl, 0, 0), (88, .goto 4, 0, 92), (91, .iconst 0, 0, 0), (92, .ior, 0, 0), (93, .istore_n 2, 0, 0), (94, .iinc 3 1, 1, 0)],
  [(97, .goto (-89), 0, 8), (100, .iload_n 2, 0, 0), (101, .ireturn, 0, 0)]]
def qp_k234 : List (List (Nat × Instr × Int32 × Nat)) := [
  [(0, .iconst 0, 0, 0), (1, .istore_n 2, 0, 0), (2, .iconst 0, 0, 0), (3, .istore_n 3, 0, 0), (4, .iload_n 3, 0, 0), (5, .aload_n 0, 0, 0), (6, .getfield 7, 0, 1000), (9, .iconst 0, 0, 0), (10, .iaload, 0, 0), (11, .if_icmp .ge 32, 0, 43), (14, .iload_n 2, 0, 0), (15, .aload_n 0, 0, 0)],
  [(16, .getfield 7, 0, 1000), (19, .iconst 2, 2, 0), (20, .iload_n 3, 0, 0), (21, .iadd, 0, 0), (22, .iaload, 0, 0), (23, .iload_n 1, 0, 0), (24, .invokestatic 192, 0, 1821), (27, .ifCond .eq 7, 0, 34), (30, .iconst 1, 1, 0), (31, .goto 4, 0, 35)],
  [(34, .iconst 0, 0, 0), (35, .iadd, 0, 0), (36, .istore_n 2, 0, 0), (37, .iinc 3 1, 1, 0), (40, .goto (-36), 0, 4), (43, .iload_n 2, 0, 0), (44, .ireturn, 0, 0)]]
def qp_k235 : List (List (Nat × Instr × Int32 × Nat)) := [
  [(0, .iconst 0, 0, 0), (1, .istore_n 2, 0, 0), (2, .iconst 0, 0, 0), (3, .istore_n 3, 0, 0), (4, .iload_n 3, 0, 0), (5, .iload_n 1, 0, 0), (6, .if_icmp .ge 23, 0, 29), (9, .iload_n 2, 0, 0), (10, .aload_n 0, 0, 0), (11, .iload_n 3, 0, 0), (12, .iaload, 0, 0), (13, .ifCond .ge 7, 0, 20)],
  [(16, .iconst 0, 0, 0), (17, .goto 4, 0, 21), (20, .iconst 1, 1, 0), (21, .iadd, 0, 0), (22, .istore_n 2, 0, 0), (23, .iinc 3 1, 1, 0), (26, .goto (-22), 0, 4), (29, .iload_n 2, 0, 0), (30, .ireturn, 0, 0)]]
def qp_k236 : List (List (Nat × Instr × Int32 × Nat)) := [
  [(0, .aload_n 0, 0, 0), (1, .getfield 78, 0, 1008), (4, .ireturn, 0, 0)]]
def qp_k237 : List (List (Nat × Instr × Int32 × Nat)) := [
  [(0, .iload_n 1, 0, 0), (1, .i2l, 0, 0), (2, .lconst 1, 0, 0), (3, .ldc2_w 85, 0, 0), (6, .invokestatic 87, 0, 1501), (9, .ifCond .eq 12, 0, 21), (12, .aload_n 0, 0, 0), (13, .getfield 32, 0, 1007)],
  [(16, .iload_n 1, 0, 0), (17, .iaload, 0, 0), (18, .goto 4, 0, 22), (21, .iconst (-1), (-1), 0), (22, .ireturn, 0, 0)]]
def qp_k238 : List (List (Nat × Instr × Int32 × Nat)) := [
  [(0, .ldc2_w 299, 0, 0), (3, .lstore_n 1, 0, 0), (4, .iconst 0, 0, 0), (5, .istore_n 3, 0, 0), (6, .iload_n 3, 0, 0), (7, .bipush 12, 12, 0), (9, .if_icmp .ge 22, 0, 31), (12, .ldc2_w 301, 0, 0), (15, .lload_n 1, 0, 0)],
  [(16, .lmul, 0, 0), (17, .aload_n 0, 0, 0), (18, .iload_n 3, 0, 0), (19, .invokevirtual 296, 0, 2320), (22, .i2l, 0, 0), (23, .ladd, 0, 0), (24, .lstore_n 1, 0, 0), (25, .iinc 3 1, 1, 0), (28, .goto (-22), 0, 6), (31, .iconst 0, 0, 0)],
  [(32, .istore_n 3, 0, 0), (33, .iload_n 3, 0, 0), (34, .aload_n 0, 0, 0), (35, .getfield 7, 0, 1000), (38, .iconst 0, 0, 0), (39, .iaload, 0, 0), (40, .if_icmp .ge 40, 0, 80), (43, .iconst 0, 0, 0), (44, .istore 4, 0, 0), (46, .iload 4, 0, 0)],
  [(48, .bipush 7, 7, 0), (50, .if_icmp .ge 24, 0, 74), (53, .ldc2_w 301, 0, 0), (56, .lload_n 1, 0, 0), (57, .lmul, 0, 0), (58, .aload_n 0, 0, 0), (59, .iload_n 3, 0, 0), (60, .iload 4, 0, 0), (62, .invokevirtual 189, 0, 1730)],
  [(65, .i2l, 0, 0), (66, .ladd, 0, 0), (67, .lstore_n 1, 0, 0), (68, .iinc 4 1, 1, 0), (71, .goto (-25), 0, 46), (74, .iinc 3 1, 1, 0), (77, .goto (-44), 0, 33)],
  [(80, .iconst 0, 0, 0), (81, .istore_n 3, 0, 0), (82, .iload_n 3, 0, 0), (83, .aload_n 0, 0, 0), (84, .getfield 7, 0, 1000), (87, .bipush 56, 56, 0), (89, .iaload, 0, 0), (90, .if_icmp .ge 47, 0, 137), (93, .ldc2_w 301, 0, 0)],
  [(96, .ldc2_w 301, 0, 0), (99, .lload_n 1, 0, 0), (100, .lmul, 0, 0), (101, .aload_n 0, 0, 0), (102, .getfield 7, 0, 1000), (105, .bipush 57, 57, 0), (107, .iload_n 3, 0, 0), (108, .iadd, 0, 0), (109, .iaload, 0, 0), (110, .bipush 8, 8, 0)],
  [(112, .idiv, 0, 0), (113, .i2l, 0, 0), (114, .ladd, 0, 0), (115, .lmul, 0, 0), (116, .aload_n 0, 0, 0), (117, .getfield 7, 0, 1000), (120, .bipush 57, 57, 0), (122, .iload_n 3, 0, 0), (123, .iadd, 0, 0), (124, .iaload, 0, 0), (125, .bipush 8, 8, 0), (127, .irem, 0, 0)],
  [(128, .i2l, 0, 0), (129, .ladd, 0, 0), (130, .lstore_n 1, 0, 0), (131, .iinc 3 1, 1, 0), (134, .goto (-52), 0, 82), (137, .iconst 0, 0, 0), (138, .istore_n 3, 0, 0), (139, .iload_n 3, 0, 0), (140, .iconst 3, 3, 0), (141, .if_icmp .ge 42, 0, 183)],
  [(144, .ldc2_w 301, 0, 0), (147, .lload_n 1, 0, 0), (148, .lmul, 0, 0), (149, .aload_n 0, 0, 0), (150, .getfield 16, 0, 1002), (153, .iload_n 3, 0, 0), (154, .baload, 0, 0), (155, .ifCond .eq 18, 0, 173), (158, .aload_n 0, 0, 0), (159, .getfield 13, 0, 1001)],
  [(162, .bipush 75, 75, 0), (164, .iload_n 3, 0, 0), (165, .imul, 0, 0), (166, .bipush 14, 14, 0), (168, .iadd, 0, 0), (169, .iaload, 0, 0), (170, .goto 4, 0, 174), (173, .iconst (-1), (-1), 0), (174, .i2l, 0, 0), (175, .ladd, 0, 0)],
  [(176, .lstore_n 1, 0, 0), (177, .iinc 3 1, 1, 0), (180, .goto (-41), 0, 139), (183, .iconst 0, 0, 0), (184, .istore_n 3, 0, 0), (185, .iload_n 3, 0, 0), (186, .bipush 6, 6, 0), (188, .if_icmp .ge 63, 0, 251), (191, .ldc2_w 301, 0, 0)],
  [(194, .lload_n 1, 0, 0), (195, .lmul, 0, 0), (196, .aload_n 0, 0, 0), (197, .getfield 23, 0, 1004), (200, .iload_n 3, 0, 0), (201, .iaload, 0, 0), (202, .i2l, 0, 0), (203, .ladd, 0, 0), (204, .lstore_n 1, 0, 0), (205, .iconst 0, 0, 0), (206, .istore 4, 0, 0)],
  [(208, .iload 4, 0, 0), (210, .aload_n 0, 0, 0), (211, .getfield 23, 0, 1004), (214, .iload_n 3, 0, 0), (215, .iaload, 0, 0), (216, .if_icmp .ge 29, 0, 245), (219, .ldc2_w 301, 0, 0), (222, .lload_n 1, 0, 0), (223, .lmul, 0, 0)],
  [(224, .aload_n 0, 0, 0), (225, .getfield 20, 0, 1003), (228, .bipush 40, 40, 0), (230, .iload_n 3, 0, 0), (231, .imul, 0, 0), (232, .iload 4, 0, 0), (234, .iadd, 0, 0), (235, .iaload, 0, 0), (236, .i2l, 0, 0), (237, .ladd, 0, 0), (238, .lstore_n 1, 0, 0), (239, .iinc 4 1, 1, 0)],
  [(242, .goto (-34), 0, 208), (245, .iinc 3 1, 1, 0), (248, .goto (-63), 0, 185), (251, .iconst 0, 0, 0), (252, .istore_n 3, 0, 0), (253, .iload_n 3, 0, 0), (254, .iconst 4, 4, 0), (255, .if_icmp .ge 63, 0, 318)],
  [(258, .ldc2_w 301, 0, 0), (261, .lload_n 1, 0, 0), (262, .lmul, 0, 0), (263, .aload_n 0, 0, 0), (264, .getfield 29, 0, 1006), (267, .iload_n 3, 0, 0), (268, .iaload, 0, 0), (269, .i2l, 0, 0), (270, .ladd, 0, 0), (271, .lstore_n 1, 0, 0)],
  [(272, .iconst 0, 0, 0), (273, .istore 4, 0, 0), (275, .iload 4, 0, 0), (277, .aload_n 0, 0, 0), (278, .getfield 29, 0, 1006), (281, .iload_n 3, 0, 0), (282, .iaload, 0, 0), (283, .if_icmp .ge 29, 0, 312), (286, .ldc2_w 301, 0, 0)],
  [(289, .lload_n 1, 0, 0), (290, .lmul, 0, 0), (291, .aload_n 0, 0, 0), (292, .getfield 26, 0, 1005), (295, .bipush 60, 60, 0), (297, .iload_n 3, 0, 0), (298, .imul, 0, 0), (299, .iload 4, 0, 0), (301, .iadd, 0, 0), (302, .iaload, 0, 0), (303, .i2l, 0, 0)],
  [(304, .ladd, 0, 0), (305, .lstore_n 1, 0, 0), (306, .iinc 4 1, 1, 0), (309, .goto (-34), 0, 275), (312, .iinc 3 1, 1, 0), (315, .goto (-62), 0, 253), (318, .lload_n 1, 0, 0), (319, .lreturn, 0, 0)]]
def qp_kL0 : List (List (Nat × Instr × Int32 × Nat)) := [
  [(0, .new 7, 0, 0), (3, .dup, 0, 0), (4, .invokespecial 9, 0, 2), (7, .astore_n 1, 0, 0), (8, .new 10, 0, 10), (11, .dup, 0, 0), (12, .invokespecial 12, 0, 1472), (15, .astore_n 2, 0, 0)],
  [(16, .iconst 0, 0, 0), (17, .istore_n 3, 0, 0), (18, .iload_n 3, 0, 0), (19, .aload_n 0, 0, 0), (20, .arraylength, 0, 0), (21, .bipush 6, 6, 0), (23, .isub, 0, 0), (24, .if_icmp .gt 1340, 0, 1364), (27, .aload_n 0, 0, 0), (28, .iload_n 3, 0, 0), (29, .iaload, 0, 0), (30, .bipush 63, 63, 0)],
  [(32, .iand, 0, 0), (33, .tableswitch 1325 0 40 #[179, 212, 255, 288, 311, 374, 397, 430, 473, 496, 519, 552, 585, 618, 641, 664, 687, 710, 733, 756, 789, 822, 855, 878, 901, 954, 977, 1010, 1033, 1056, 1079, 1122, 1155, 1178, 1211, 1224, 1238, 1252, 1275, 1288, 1311], 0, 179)],
  [],
  [],
  [],
  [],
  []]
def qp_kL1 : List (List (Nat × Instr × Int32 × Nat)) := [
  [],
  [],
  [],
  [],
  [],
  [(212, .aload_n 1, 0, 0), (213, .aload_n 0, 0, 0), (214, .iload_n 3, 0, 0), (215, .iconst 1, 1, 0), (216, .iadd, 0, 0), (217, .iaload, 0, 0), (218, .aload_n 0, 0, 0), (219, .iload_n 3, 0, 0), (220, .iconst 2, 2, 0), (221, .iadd, 0, 0), (222, .iaload, 0, 0), (223, .invokevirtual 13, 0, 110)],
  [(226, .aload_n 2, 0, 0), (227, .aload_n 0, 0, 0), (228, .iload_n 3, 0, 0), (229, .iconst 1, 1, 0), (230, .iadd, 0, 0), (231, .iaload, 0, 0), (232, .aload_n 0, 0, 0), (233, .iload_n 3, 0, 0), (234, .iconst 2, 2, 0), (235, .iadd, 0, 0), (236, .iaload, 0, 0), (237, .invokevirtual 17, 0, 1480)],
  [(240, .if_icmp .eq 1118, 0, 1358), (243, .iconst 0, 0, 0), (244, .ireturn, 0, 0), (245, .aload_n 1, 0, 0), (246, .aload_n 0, 0, 0), (247, .iload_n 3, 0, 0), (248, .iconst 1, 1, 0), (249, .iadd, 0, 0), (250, .iaload, 0, 0), (251, .aload_n 0, 0, 0), (252, .iload_n 3, 0, 0), (253, .iconst 2, 2, 0), (254, .iadd, 0, 0), (255, .iaload, 0, 0)]]
def qp_kL2 : List (List (Nat × Instr × Int32 × Nat)) := [
  [(256, .aload_n 0, 0, 0), (257, .iload_n 3, 0, 0), (258, .iconst 3, 3, 0), (259, .iadd, 0, 0), (260, .iaload, 0, 0), (261, .invokevirtual 18, 0, 180), (264, .aload_n 2, 0, 0), (265, .aload_n 0, 0, 0), (266, .iload_n 3, 0, 0), (267, .iconst 1, 1, 0), (268, .iadd, 0, 0), (269, .iaload, 0, 0), (270, .aload_n 0, 0, 0), (271, .iload_n 3, 0, 0)],
  [(272, .iconst 2, 2, 0), (273, .iadd, 0, 0), (274, .iaload, 0, 0), (275, .aload_n 0, 0, 0), (276, .iload_n 3, 0, 0), (277, .iconst 3, 3, 0), (278, .iadd, 0, 0), (279, .iaload, 0, 0), (280, .invokevirtual 22, 0, 1520), (283, .if_icmp .eq 1075, 0, 1358), (286, .iconst 0, 0, 0), (287, .ireturn, 0, 0)],
  [(288, .aload_n 1, 0, 0), (289, .aload_n 0, 0, 0), (290, .iload_n 3, 0, 0), (291, .iconst 1, 1, 0), (292, .iadd, 0, 0), (293, .iaload, 0, 0), (294, .aload_n 0, 0, 0), (295, .iload_n 3, 0, 0), (296, .iconst 2, 2, 0), (297, .iadd, 0, 0), (298, .iaload, 0, 0), (299, .invokevirtual 23, 0, 250), (302, .aload_n 2, 0, 0), (303, .aload_n 0, 0, 0)],
  [(304, .iload_n 3, 0, 0), (305, .iconst 1, 1, 0), (306, .iadd, 0, 0), (307, .iaload, 0, 0), (308, .aload_n 0, 0, 0), (309, .iload_n 3, 0, 0), (310, .iconst 2, 2, 0), (311, .iadd, 0, 0), (312, .iaload, 0, 0), (313, .invokevirtual 26, 0, 1530), (316, .if_icmp .eq 1042, 0, 1358), (319, .iconst 0, 0, 0)],
  [(320, .ireturn, 0, 0), (321, .aload_n 1, 0, 0), (322, .aload_n 0, 0, 0), (323, .iload_n 3, 0, 0), (324, .iconst 1, 1, 0), (325, .iadd, 0, 0), (326, .iaload, 0, 0), (327, .invokevirtual 27, 0, 260), (330, .aload_n 2, 0, 0), (331, .aload_n 0, 0, 0), (332, .iload_n 3, 0, 0), (333, .iconst 1, 1, 0), (334, .iadd, 0, 0), (335, .iaload, 0, 0)],
  [(336, .invokevirtual 31, 0, 1550), (339, .if_icmp .eq 1019, 0, 1358), (342, .iconst 0, 0, 0), (343, .ireturn, 0, 0), (344, .aload_n 1, 0, 0), (345, .aload_n 0, 0, 0), (346, .iload_n 3, 0, 0), (347, .iconst 1, 1, 0), (348, .iadd, 0, 0), (349, .iaload, 0, 0), (350, .aload_n 0, 0, 0), (351, .iload_n 3, 0, 0)],
  [(352, .iconst 2, 2, 0), (353, .iadd, 0, 0), (354, .iaload, 0, 0), (355, .aload_n 0, 0, 0), (356, .iload_n 3, 0, 0), (357, .iconst 3, 3, 0), (358, .iadd, 0, 0), (359, .iaload, 0, 0), (360, .aload_n 0, 0, 0), (361, .iload_n 3, 0, 0), (362, .iconst 4, 4, 0), (363, .iadd, 0, 0), (364, .iaload, 0, 0), (365, .aload_n 0, 0, 0), (366, .iload_n 3, 0, 0), (367, .iconst 5, 5, 0)],
  [(368, .iadd, 0, 0), (369, .iaload, 0, 0), (370, .invokevirtual 32, 0, 280), (373, .aload_n 2, 0, 0), (374, .aload_n 0, 0, 0), (375, .iload_n 3, 0, 0), (376, .iconst 1, 1, 0), (377, .iadd, 0, 0), (378, .iaload, 0, 0), (379, .aload_n 0, 0, 0), (380, .iload_n 3, 0, 0), (381, .iconst 2, 2, 0), (382, .iadd, 0, 0), (383, .iaload, 0, 0)]]
def qp_kL3 : List (List (Nat × Instr × Int32 × Nat)) := [
  [(384, .aload_n 0, 0, 0), (385, .iload_n 3, 0, 0), (386, .iconst 3, 3, 0), (387, .iadd, 0, 0), (388, .iaload, 0, 0), (389, .aload_n 0, 0, 0), (390, .iload_n 3, 0, 0), (391, .iconst 4, 4, 0), (392, .iadd, 0, 0), (393, .iaload, 0, 0), (394, .aload_n 0, 0, 0), (395, .iload_n 3, 0, 0), (396, .iconst 5, 5, 0), (397, .iadd, 0, 0), (398, .iaload, 0, 0), (399, .invokevirtual 36, 0, 1560)],
  [(402, .if_icmp .eq 956, 0, 1358), (405, .iconst 0, 0, 0), (406, .ireturn, 0, 0), (407, .aload_n 1, 0, 0), (408, .aload_n 0, 0, 0), (409, .iload_n 3, 0, 0), (410, .iconst 1, 1, 0), (411, .iadd, 0, 0), (412, .iaload, 0, 0), (413, .invokevirtual 37, 0, 320)],
  [(416, .aload_n 2, 0, 0), (417, .aload_n 0, 0, 0), (418, .iload_n 3, 0, 0), (419, .iconst 1, 1, 0), (420, .iadd, 0, 0), (421, .iaload, 0, 0), (422, .invokevirtual 40, 0, 1570), (425, .if_icmp .eq 933, 0, 1358), (428, .iconst 0, 0, 0), (429, .ireturn, 0, 0), (430, .aload_n 1, 0, 0), (431, .aload_n 0, 0, 0)],
  [(432, .iload_n 3, 0, 0), (433, .iconst 1, 1, 0), (434, .iadd, 0, 0), (435, .iaload, 0, 0), (436, .aload_n 0, 0, 0), (437, .iload_n 3, 0, 0), (438, .iconst 2, 2, 0), (439, .iadd, 0, 0), (440, .iaload, 0, 0), (441, .invokevirtual 41, 0, 340), (444, .aload_n 2, 0, 0), (445, .aload_n 0, 0, 0), (446, .iload_n 3, 0, 0), (447, .iconst 1, 1, 0)],
  [(448, .iadd, 0, 0), (449, .iaload, 0, 0), (450, .aload_n 0, 0, 0), (451, .iload_n 3, 0, 0), (452, .iconst 2, 2, 0), (453, .iadd, 0, 0), (454, .iaload, 0, 0), (455, .invokevirtual 44, 0, 1580), (458, .if_icmp .eq 900, 0, 1358), (461, .iconst 0, 0, 0), (462, .ireturn, 0, 0), (463, .aload_n 1, 0, 0)],
  [(464, .aload_n 0, 0, 0), (465, .iload_n 3, 0, 0), (466, .iconst 1, 1, 0), (467, .iadd, 0, 0), (468, .iaload, 0, 0), (469, .aload_n 0, 0, 0), (470, .iload_n 3, 0, 0), (471, .iconst 2, 2, 0), (472, .iadd, 0, 0), (473, .iaload, 0, 0), (474, .aload_n 0, 0, 0), (475, .iload_n 3, 0, 0), (476, .iconst 3, 3, 0), (477, .iadd, 0, 0), (478, .iaload, 0, 0), (479, .invokevirtual 45, 0, 350)],
  [(482, .aload_n 2, 0, 0), (483, .aload_n 0, 0, 0), (484, .iload_n 3, 0, 0), (485, .iconst 1, 1, 0), (486, .iadd, 0, 0), (487, .iaload, 0, 0), (488, .aload_n 0, 0, 0), (489, .iload_n 3, 0, 0), (490, .iconst 2, 2, 0), (491, .iadd, 0, 0), (492, .iaload, 0, 0), (493, .aload_n 0, 0, 0), (494, .iload_n 3, 0, 0), (495, .iconst 3, 3, 0)],
  [(496, .iadd, 0, 0), (497, .iaload, 0, 0), (498, .invokevirtual 48, 0, 1600), (501, .if_icmp .eq 857, 0, 1358), (504, .iconst 0, 0, 0), (505, .ireturn, 0, 0), (506, .aload_n 1, 0, 0), (507, .aload_n 0, 0, 0), (508, .iload_n 3, 0, 0), (509, .iconst 1, 1, 0), (510, .iadd, 0, 0), (511, .iaload, 0, 0)]]
def qp_kL4 : List (List (Nat × Instr × Int32 × Nat)) := [
  [(512, .invokevirtual 49, 0, 360), (515, .aload_n 2, 0, 0), (516, .aload_n 0, 0, 0), (517, .iload_n 3, 0, 0), (518, .iconst 1, 1, 0), (519, .iadd, 0, 0), (520, .iaload, 0, 0), (521, .invokevirtual 52, 0, 1610), (524, .if_icmp .eq 834, 0, 1358), (527, .iconst 0, 0, 0)],
  [(528, .ireturn, 0, 0), (529, .aload_n 1, 0, 0), (530, .aload_n 0, 0, 0), (531, .iload_n 3, 0, 0), (532, .iconst 1, 1, 0), (533, .iadd, 0, 0), (534, .iaload, 0, 0), (535, .invokevirtual 53, 0, 450), (538, .aload_n 2, 0, 0), (539, .aload_n 0, 0, 0), (540, .iload_n 3, 0, 0), (541, .iconst 1, 1, 0), (542, .iadd, 0, 0), (543, .iaload, 0, 0)],
  [(544, .invokevirtual 56, 0, 1690), (547, .if_icmp .eq 811, 0, 1358), (550, .iconst 0, 0, 0), (551, .ireturn, 0, 0), (552, .aload_n 1, 0, 0), (553, .aload_n 0, 0, 0), (554, .iload_n 3, 0, 0), (555, .iconst 1, 1, 0), (556, .iadd, 0, 0), (557, .iaload, 0, 0), (558, .aload_n 0, 0, 0), (559, .iload_n 3, 0, 0)],
  [(560, .iconst 2, 2, 0), (561, .iadd, 0, 0), (562, .iaload, 0, 0), (563, .invokevirtual 57, 0, 520), (566, .aload_n 2, 0, 0), (567, .aload_n 0, 0, 0), (568, .iload_n 3, 0, 0), (569, .iconst 1, 1, 0), (570, .iadd, 0, 0), (571, .iaload, 0, 0), (572, .aload_n 0, 0, 0), (573, .iload_n 3, 0, 0), (574, .iconst 2, 2, 0), (575, .iadd, 0, 0)],
  [(576, .iaload, 0, 0), (577, .invokevirtual 60, 0, 1710), (580, .if_icmp .eq 778, 0, 1358), (583, .iconst 0, 0, 0), (584, .ireturn, 0, 0), (585, .aload_n 1, 0, 0), (586, .aload_n 0, 0, 0), (587, .iload_n 3, 0, 0), (588, .iconst 1, 1, 0), (589, .iadd, 0, 0), (590, .iaload, 0, 0), (591, .aload_n 0, 0, 0)],
  [(592, .iload_n 3, 0, 0), (593, .iconst 2, 2, 0), (594, .iadd, 0, 0), (595, .iaload, 0, 0), (596, .invokevirtual 61, 0, 690), (599, .aload_n 2, 0, 0), (600, .aload_n 0, 0, 0), (601, .iload_n 3, 0, 0), (602, .iconst 1, 1, 0), (603, .iadd, 0, 0), (604, .iaload, 0, 0), (605, .aload_n 0, 0, 0), (606, .iload_n 3, 0, 0), (607, .iconst 2, 2, 0)],
  [(608, .iadd, 0, 0), (609, .iaload, 0, 0), (610, .invokevirtual 64, 0, 1810), (613, .if_icmp .eq 745, 0, 1358), (616, .iconst 0, 0, 0), (617, .ireturn, 0, 0), (618, .aload_n 1, 0, 0), (619, .aload_n 0, 0, 0), (620, .iload_n 3, 0, 0), (621, .iconst 1, 1, 0), (622, .iadd, 0, 0), (623, .iaload, 0, 0)],
  [(624, .aload_n 0, 0, 0), (625, .iload_n 3, 0, 0), (626, .iconst 2, 2, 0), (627, .iadd, 0, 0), (628, .iaload, 0, 0), (629, .invokevirtual 65, 0, 720), (632, .aload_n 2, 0, 0), (633, .aload_n 0, 0, 0), (634, .iload_n 3, 0, 0), (635, .iconst 1, 1, 0), (636, .iadd, 0, 0), (637, .iaload, 0, 0), (638, .aload_n 0, 0, 0), (639, .iload_n 3, 0, 0)]]
def qp_kL5 : List (List (Nat × Instr × Int32 × Nat)) := [
  [(640, .iconst 2, 2, 0), (641, .iadd, 0, 0), (642, .iaload, 0, 0), (643, .invokevirtual 68, 0, 1840), (646, .if_icmp .eq 712, 0, 1358), (649, .iconst 0, 0, 0), (650, .ireturn, 0, 0), (651, .aload_n 1, 0, 0), (652, .aload_n 0, 0, 0), (653, .iload_n 3, 0, 0), (654, .iconst 1, 1, 0), (655, .iadd, 0, 0)],
  [(656, .iaload, 0, 0), (657, .invokevirtual 69, 0, 800), (660, .aload_n 2, 0, 0), (661, .aload_n 0, 0, 0), (662, .iload_n 3, 0, 0), (663, .iconst 1, 1, 0), (664, .iadd, 0, 0), (665, .iaload, 0, 0), (666, .invokevirtual 72, 0, 1900), (669, .if_icmp .eq 689, 0, 1358)],
  [(672, .iconst 0, 0, 0), (673, .ireturn, 0, 0), (674, .aload_n 1, 0, 0), (675, .aload_n 0, 0, 0), (676, .iload_n 3, 0, 0), (677, .iconst 1, 1, 0), (678, .iadd, 0, 0), (679, .iaload, 0, 0), (680, .invokevirtual 73, 0, 820), (683, .aload_n 2, 0, 0), (684, .aload_n 0, 0, 0), (685, .iload_n 3, 0, 0), (686, .iconst 1, 1, 0), (687, .iadd, 0, 0)],
  [(688, .iaload, 0, 0), (689, .invokevirtual 76, 0, 1920), (692, .if_icmp .eq 666, 0, 1358), (695, .iconst 0, 0, 0), (696, .ireturn, 0, 0), (697, .aload_n 1, 0, 0), (698, .aload_n 0, 0, 0), (699, .iload_n 3, 0, 0), (700, .iconst 1, 1, 0), (701, .iadd, 0, 0), (702, .iaload, 0, 0), (703, .invokevirtual 77, 0, 830)],
  [(706, .aload_n 2, 0, 0), (707, .aload_n 0, 0, 0), (708, .iload_n 3, 0, 0), (709, .iconst 1, 1, 0), (710, .iadd, 0, 0), (711, .iaload, 0, 0), (712, .invokevirtual 80, 0, 1930), (715, .if_icmp .eq 643, 0, 1358), (718, .iconst 0, 0, 0), (719, .ireturn, 0, 0)],
  [(720, .aload_n 1, 0, 0), (721, .aload_n 0, 0, 0), (722, .iload_n 3, 0, 0), (723, .iconst 1, 1, 0), (724, .iadd, 0, 0), (725, .iaload, 0, 0), (726, .invokevirtual 81, 0, 850), (729, .aload_n 2, 0, 0), (730, .aload_n 0, 0, 0), (731, .iload_n 3, 0, 0), (732, .iconst 1, 1, 0), (733, .iadd, 0, 0), (734, .iaload, 0, 0), (735, .invokevirtual 84, 0, 1940)],
  [(738, .if_icmp .eq 620, 0, 1358), (741, .iconst 0, 0, 0), (742, .ireturn, 0, 0), (743, .aload_n 1, 0, 0), (744, .aload_n 0, 0, 0), (745, .iload_n 3, 0, 0), (746, .iconst 1, 1, 0), (747, .iadd, 0, 0), (748, .iaload, 0, 0), (749, .invokevirtual 85, 0, 870)],
  [(752, .aload_n 2, 0, 0), (753, .aload_n 0, 0, 0), (754, .iload_n 3, 0, 0), (755, .iconst 1, 1, 0), (756, .iadd, 0, 0), (757, .iaload, 0, 0), (758, .invokevirtual 88, 0, 1960), (761, .if_icmp .eq 597, 0, 1358), (764, .iconst 0, 0, 0), (765, .ireturn, 0, 0), (766, .aload_n 1, 0, 0), (767, .aload_n 0, 0, 0)]]
def qp_kL6 : List (List (Nat × Instr × Int32 × Nat)) := [
  [(768, .iload_n 3, 0, 0), (769, .iconst 1, 1, 0), (770, .iadd, 0, 0), (771, .iaload, 0, 0), (772, .invokevirtual 89, 0, 880), (775, .aload_n 2, 0, 0), (776, .aload_n 0, 0, 0), (777, .iload_n 3, 0, 0), (778, .iconst 1, 1, 0), (779, .iadd, 0, 0), (780, .iaload, 0, 0), (781, .invokevirtual 92, 0, 1970)],
  [(784, .if_icmp .eq 574, 0, 1358), (787, .iconst 0, 0, 0), (788, .ireturn, 0, 0), (789, .aload_n 1, 0, 0), (790, .aload_n 0, 0, 0), (791, .iload_n 3, 0, 0), (792, .iconst 1, 1, 0), (793, .iadd, 0, 0), (794, .iaload, 0, 0), (795, .aload_n 0, 0, 0), (796, .iload_n 3, 0, 0), (797, .iconst 2, 2, 0), (798, .iadd, 0, 0), (799, .iaload, 0, 0)],
  [(800, .invokevirtual 93, 0, 890), (803, .aload_n 2, 0, 0), (804, .aload_n 0, 0, 0), (805, .iload_n 3, 0, 0), (806, .iconst 1, 1, 0), (807, .iadd, 0, 0), (808, .iaload, 0, 0), (809, .aload_n 0, 0, 0), (810, .iload_n 3, 0, 0), (811, .iconst 2, 2, 0), (812, .iadd, 0, 0), (813, .iaload, 0, 0), (814, .invokevirtual 96, 0, 1980)],
  [(817, .if_icmp .eq 541, 0, 1358), (820, .iconst 0, 0, 0), (821, .ireturn, 0, 0), (822, .aload_n 1, 0, 0), (823, .aload_n 0, 0, 0), (824, .iload_n 3, 0, 0), (825, .iconst 1, 1, 0), (826, .iadd, 0, 0), (827, .iaload, 0, 0), (828, .aload_n 0, 0, 0), (829, .iload_n 3, 0, 0), (830, .iconst 2, 2, 0), (831, .iadd, 0, 0)],
  [(832, .iaload, 0, 0), (833, .invokevirtual 97, 0, 910), (836, .aload_n 2, 0, 0), (837, .aload_n 0, 0, 0), (838, .iload_n 3, 0, 0), (839, .iconst 1, 1, 0), (840, .iadd, 0, 0), (841, .iaload, 0, 0), (842, .aload_n 0, 0, 0), (843, .iload_n 3, 0, 0), (844, .iconst 2, 2, 0), (845, .iadd, 0, 0), (846, .iaload, 0, 0), (847, .invokevirtual 100, 0, 1990)],
  [(850, .if_icmp .eq 508, 0, 1358), (853, .iconst 0, 0, 0), (854, .ireturn, 0, 0), (855, .aload_n 1, 0, 0), (856, .aload_n 0, 0, 0), (857, .iload_n 3, 0, 0), (858, .iconst 1, 1, 0), (859, .iadd, 0, 0), (860, .iaload, 0, 0), (861, .aload_n 0, 0, 0), (862, .iload_n 3, 0, 0), (863, .iconst 2, 2, 0)],
  [(864, .iadd, 0, 0), (865, .iaload, 0, 0), (866, .invokevirtual 101, 0, 920), (869, .aload_n 2, 0, 0), (870, .aload_n 0, 0, 0), (871, .iload_n 3, 0, 0), (872, .iconst 1, 1, 0), (873, .iadd, 0, 0), (874, .iaload, 0, 0), (875, .aload_n 0, 0, 0), (876, .iload_n 3, 0, 0), (877, .iconst 2, 2, 0), (878, .iadd, 0, 0), (879, .iaload, 0, 0)],
  [(880, .invokevirtual 104, 0, 2000), (883, .if_icmp .eq 475, 0, 1358), (886, .iconst 0, 0, 0), (887, .ireturn, 0, 0), (888, .aload_n 1, 0, 0), (889, .aload_n 0, 0, 0), (890, .iload_n 3, 0, 0), (891, .iconst 1, 1, 0), (892, .iadd, 0, 0), (893, .iaload, 0, 0), (894, .invokevirtual 105, 0, 940)]]
def qp_kL7 : List (List (Nat × Instr × Int32 × Nat)) := [
  [(897, .aload_n 2, 0, 0), (898, .aload_n 0, 0, 0), (899, .iload_n 3, 0, 0), (900, .iconst 1, 1, 0), (901, .iadd, 0, 0), (902, .iaload, 0, 0), (903, .invokevirtual 108, 0, 2030), (906, .if_icmp .eq 452, 0, 1358), (909, .iconst 0, 0, 0), (910, .ireturn, 0, 0), (911, .aload_n 1, 0, 0)],
  [(912, .aload_n 0, 0, 0), (913, .iload_n 3, 0, 0), (914, .iconst 1, 1, 0), (915, .iadd, 0, 0), (916, .iaload, 0, 0), (917, .invokevirtual 109, 0, 950), (920, .aload_n 2, 0, 0), (921, .aload_n 0, 0, 0), (922, .iload_n 3, 0, 0), (923, .iconst 1, 1, 0), (924, .iadd, 0, 0), (925, .iaload, 0, 0), (926, .invokevirtual 112, 0, 2040)],
  [(929, .if_icmp .eq 429, 0, 1358), (932, .iconst 0, 0, 0), (933, .ireturn, 0, 0), (934, .aload_n 1, 0, 0), (935, .aload_n 0, 0, 0), (936, .iload_n 3, 0, 0), (937, .iconst 1, 1, 0), (938, .iadd, 0, 0), (939, .iaload, 0, 0), (940, .aload_n 0, 0, 0), (941, .iload_n 3, 0, 0), (942, .iconst 2, 2, 0), (943, .iadd, 0, 0)],
  [(944, .iaload, 0, 0), (945, .aload_n 0, 0, 0), (946, .iload_n 3, 0, 0), (947, .iconst 3, 3, 0), (948, .iadd, 0, 0), (949, .iaload, 0, 0), (950, .aload_n 0, 0, 0), (951, .iload_n 3, 0, 0), (952, .iconst 4, 4, 0), (953, .iadd, 0, 0), (954, .iaload, 0, 0), (955, .invokevirtual 113, 0, 960), (958, .aload_n 2, 0, 0), (959, .aload_n 0, 0, 0)],
  [(960, .iload_n 3, 0, 0), (961, .iconst 1, 1, 0), (962, .iadd, 0, 0), (963, .iaload, 0, 0), (964, .aload_n 0, 0, 0), (965, .iload_n 3, 0, 0), (966, .iconst 2, 2, 0), (967, .iadd, 0, 0), (968, .iaload, 0, 0), (969, .aload_n 0, 0, 0), (970, .iload_n 3, 0, 0), (971, .iconst 3, 3, 0), (972, .iadd, 0, 0), (973, .iaload, 0, 0), (974, .aload_n 0, 0, 0), (975, .iload_n 3, 0, 0)],
  [(976, .iconst 4, 4, 0), (977, .iadd, 0, 0), (978, .iaload, 0, 0), (979, .invokevirtual 117, 0, 2050), (982, .if_icmp .eq 376, 0, 1358), (985, .iconst 0, 0, 0), (986, .ireturn, 0, 0), (987, .aload_n 1, 0, 0), (988, .aload_n 0, 0, 0), (989, .iload_n 3, 0, 0), (990, .iconst 1, 1, 0), (991, .iadd, 0, 0)],
  [(992, .iaload, 0, 0), (993, .invokevirtual 118, 0, 1040), (996, .aload_n 2, 0, 0), (997, .aload_n 0, 0, 0), (998, .iload_n 3, 0, 0), (999, .iconst 1, 1, 0), (1000, .iadd, 0, 0), (1001, .iaload, 0, 0), (1002, .invokevirtual 121, 0, 2070), (1005, .if_icmp .eq 353, 0, 1358)],
  [(1008, .iconst 0, 0, 0), (1009, .ireturn, 0, 0), (1010, .aload_n 1, 0, 0), (1011, .aload_n 0, 0, 0), (1012, .iload_n 3, 0, 0), (1013, .iconst 1, 1, 0), (1014, .iadd, 0, 0), (1015, .iaload, 0, 0), (1016, .aload_n 0, 0, 0), (1017, .iload_n 3, 0, 0), (1018, .iconst 2, 2, 0), (1019, .iadd, 0, 0), (1020, .iaload, 0, 0), (1021, .invokevirtual 122, 0, 1130)]]
def qp_kL8 : List (List (Nat × Instr × Int32 × Nat)) := [
  [(1024, .aload_n 2, 0, 0), (1025, .aload_n 0, 0, 0), (1026, .iload_n 3, 0, 0), (1027, .iconst 1, 1, 0), (1028, .iadd, 0, 0), (1029, .iaload, 0, 0), (1030, .aload_n 0, 0, 0), (1031, .iload_n 3, 0, 0), (1032, .iconst 2, 2, 0), (1033, .iadd, 0, 0), (1034, .iaload, 0, 0), (1035, .invokevirtual 125, 0, 2130), (1038, .if_icmp .eq 320, 0, 1358)],
  [(1041, .iconst 0, 0, 0), (1042, .ireturn, 0, 0), (1043, .aload_n 1, 0, 0), (1044, .aload_n 0, 0, 0), (1045, .iload_n 3, 0, 0), (1046, .iconst 1, 1, 0), (1047, .iadd, 0, 0), (1048, .iaload, 0, 0), (1049, .invokevirtual 126, 0, 1150), (1052, .aload_n 2, 0, 0), (1053, .aload_n 0, 0, 0), (1054, .iload_n 3, 0, 0), (1055, .iconst 1, 1, 0)],
  [(1056, .iadd, 0, 0), (1057, .iaload, 0, 0), (1058, .invokevirtual 129, 0, 2140), (1061, .if_icmp .eq 297, 0, 1358), (1064, .iconst 0, 0, 0), (1065, .ireturn, 0, 0), (1066, .aload_n 1, 0, 0), (1067, .aload_n 0, 0, 0), (1068, .iload_n 3, 0, 0), (1069, .iconst 1, 1, 0), (1070, .iadd, 0, 0), (1071, .iaload, 0, 0)],
  [(1072, .invokevirtual 130, 0, 1170), (1075, .aload_n 2, 0, 0), (1076, .aload_n 0, 0, 0), (1077, .iload_n 3, 0, 0), (1078, .iconst 1, 1, 0), (1079, .iadd, 0, 0), (1080, .iaload, 0, 0), (1081, .invokevirtual 133, 0, 2150), (1084, .if_icmp .eq 274, 0, 1358), (1087, .iconst 0, 0, 0)],
  [(1088, .ireturn, 0, 0), (1089, .aload_n 1, 0, 0), (1090, .aload_n 0, 0, 0), (1091, .iload_n 3, 0, 0), (1092, .iconst 1, 1, 0), (1093, .iadd, 0, 0), (1094, .iaload, 0, 0), (1095, .invokevirtual 134, 0, 1190), (1098, .aload_n 2, 0, 0), (1099, .aload_n 0, 0, 0), (1100, .iload_n 3, 0, 0), (1101, .iconst 1, 1, 0), (1102, .iadd, 0, 0), (1103, .iaload, 0, 0)],
  [(1104, .invokevirtual 137, 0, 2170), (1107, .if_icmp .eq 251, 0, 1358), (1110, .iconst 0, 0, 0), (1111, .ireturn, 0, 0), (1112, .aload_n 1, 0, 0), (1113, .aload_n 0, 0, 0), (1114, .iload_n 3, 0, 0), (1115, .iconst 1, 1, 0), (1116, .iadd, 0, 0), (1117, .iaload, 0, 0), (1118, .aload_n 0, 0, 0), (1119, .iload_n 3, 0, 0)],
  [(1120, .iconst 2, 2, 0), (1121, .iadd, 0, 0), (1122, .iaload, 0, 0), (1123, .aload_n 0, 0, 0), (1124, .iload_n 3, 0, 0), (1125, .iconst 3, 3, 0), (1126, .iadd, 0, 0), (1127, .iaload, 0, 0), (1128, .invokevirtual 138, 0, 1200), (1131, .aload_n 2, 0, 0), (1132, .aload_n 0, 0, 0), (1133, .iload_n 3, 0, 0), (1134, .iconst 1, 1, 0), (1135, .iadd, 0, 0)],
  [(1136, .iaload, 0, 0), (1137, .aload_n 0, 0, 0), (1138, .iload_n 3, 0, 0), (1139, .iconst 2, 2, 0), (1140, .iadd, 0, 0), (1141, .iaload, 0, 0), (1142, .aload_n 0, 0, 0), (1143, .iload_n 3, 0, 0), (1144, .iconst 3, 3, 0), (1145, .iadd, 0, 0), (1146, .iaload, 0, 0), (1147, .invokevirtual 141, 0, 2180), (1150, .if_icmp .eq 208, 0, 1358)]]
def qp_kL9 : List (List (Nat × Instr × Int32 × Nat)) := [
  [(1153, .iconst 0, 0, 0), (1154, .ireturn, 0, 0), (1155, .aload_n 1, 0, 0), (1156, .aload_n 0, 0, 0), (1157, .iload_n 3, 0, 0), (1158, .iconst 1, 1, 0), (1159, .iadd, 0, 0), (1160, .iaload, 0, 0), (1161, .aload_n 0, 0, 0), (1162, .iload_n 3, 0, 0), (1163, .iconst 2, 2, 0), (1164, .iadd, 0, 0), (1165, .iaload, 0, 0), (1166, .invokevirtual 142, 0, 1240)],
  [(1169, .aload_n 2, 0, 0), (1170, .aload_n 0, 0, 0), (1171, .iload_n 3, 0, 0), (1172, .iconst 1, 1, 0), (1173, .iadd, 0, 0), (1174, .iaload, 0, 0), (1175, .aload_n 0, 0, 0), (1176, .iload_n 3, 0, 0), (1177, .iconst 2, 2, 0), (1178, .iadd, 0, 0), (1179, .iaload, 0, 0), (1180, .invokevirtual 145, 0, 2210), (1183, .if_icmp .eq 175, 0, 1358)],
  [(1186, .iconst 0, 0, 0), (1187, .ireturn, 0, 0), (1188, .aload_n 1, 0, 0), (1189, .aload_n 0, 0, 0), (1190, .iload_n 3, 0, 0), (1191, .iconst 1, 1, 0), (1192, .iadd, 0, 0), (1193, .iaload, 0, 0), (1194, .invokevirtual 146, 0, 1300), (1197, .aload_n 2, 0, 0), (1198, .aload_n 0, 0, 0), (1199, .iload_n 3, 0, 0)],
  [(1200, .iconst 1, 1, 0), (1201, .iadd, 0, 0), (1202, .iaload, 0, 0), (1203, .invokevirtual 149, 0, 2240), (1206, .if_icmp .eq 152, 0, 1358), (1209, .iconst 0, 0, 0), (1210, .ireturn, 0, 0), (1211, .aload_n 1, 0, 0), (1212, .aload_n 0, 0, 0), (1213, .iload_n 3, 0, 0), (1214, .iconst 1, 1, 0), (1215, .iadd, 0, 0)],
  [(1216, .iaload, 0, 0), (1217, .aload_n 0, 0, 0), (1218, .iload_n 3, 0, 0), (1219, .iconst 2, 2, 0), (1220, .iadd, 0, 0), (1221, .iaload, 0, 0), (1222, .invokevirtual 150, 0, 1330), (1225, .aload_n 2, 0, 0), (1226, .aload_n 0, 0, 0), (1227, .iload_n 3, 0, 0), (1228, .iconst 1, 1, 0), (1229, .iadd, 0, 0), (1230, .iaload, 0, 0), (1231, .aload_n 0, 0, 0)],
  [(1232, .iload_n 3, 0, 0), (1233, .iconst 2, 2, 0), (1234, .iadd, 0, 0), (1235, .iaload, 0, 0), (1236, .invokevirtual 153, 0, 2250), (1239, .if_icmp .eq 119, 0, 1358), (1242, .iconst 0, 0, 0), (1243, .ireturn, 0, 0), (1244, .aload_n 1, 0, 0), (1245, .invokevirtual 154, 0, 1360)],
  [(1248, .aload_n 2, 0, 0), (1249, .invokevirtual 158, 0, 2280), (1252, .if_icmp .eq 106, 0, 1358), (1255, .iconst 0, 0, 0), (1256, .ireturn, 0, 0), (1257, .aload_n 1, 0, 0), (1258, .invokevirtual 159, 0, 1370), (1261, .aload_n 2, 0, 0), (1262, .invokevirtual 163, 0, 2290)],
  [(1265, .lcmp, 0, 0), (1266, .ifCond .eq 92, 0, 1358), (1269, .iconst 0, 0, 0), (1270, .ireturn, 0, 0), (1271, .aload_n 1, 0, 0), (1272, .invokevirtual 164, 0, 1380), (1275, .aload_n 2, 0, 0), (1276, .invokevirtual 167, 0, 2300), (1279, .lcmp, 0, 0)]]
def qp_kL10 : List (List (Nat × Instr × Int32 × Nat)) := [
  [(1280, .ifCond .eq 78, 0, 1358), (1283, .iconst 0, 0, 0), (1284, .ireturn, 0, 0), (1285, .aload_n 1, 0, 0), (1286, .aload_n 0, 0, 0), (1287, .iload_n 3, 0, 0), (1288, .iconst 1, 1, 0), (1289, .iadd, 0, 0), (1290, .iaload, 0, 0), (1291, .invokevirtual 168, 0, 1390), (1294, .aload_n 2, 0, 0), (1295, .aload_n 0, 0, 0)],
  [(1296, .iload_n 3, 0, 0), (1297, .iconst 1, 1, 0), (1298, .iadd, 0, 0), (1299, .iaload, 0, 0), (1300, .invokevirtual 171, 0, 2310), (1303, .if_icmp .eq 55, 0, 1358), (1306, .iconst 0, 0, 0), (1307, .ireturn, 0, 0), (1308, .aload_n 1, 0, 0), (1309, .invokevirtual 172, 0, 1430)],
  [(1312, .aload_n 2, 0, 0), (1313, .invokevirtual 175, 0, 2360), (1316, .if_icmp .eq 42, 0, 1358), (1319, .iconst 0, 0, 0), (1320, .ireturn, 0, 0), (1321, .aload_n 1, 0, 0), (1322, .aload_n 0, 0, 0), (1323, .iload_n 3, 0, 0), (1324, .iconst 1, 1, 0), (1325, .iadd, 0, 0), (1326, .iaload, 0, 0), (1327, .invokevirtual 176, 0, 1440)],
  [(1330, .aload_n 2, 0, 0), (1331, .aload_n 0, 0, 0), (1332, .iload_n 3, 0, 0), (1333, .iconst 1, 1, 0), (1334, .iadd, 0, 0), (1335, .iaload, 0, 0), (1336, .invokevirtual 179, 0, 2370), (1339, .if_icmp .eq 19, 0, 1358), (1342, .iconst 0, 0, 0), (1343, .ireturn, 0, 0)],
  [(1344, .aload_n 1, 0, 0), (1345, .invokevirtual 180, 0, 1450), (1348, .aload_n 2, 0, 0), (1349, .invokevirtual 183, 0, 2380), (1352, .lcmp, 0, 0), (1353, .ifCond .eq 5, 0, 1358), (1356, .iconst 0, 0, 0), (1357, .ireturn, 0, 0), (1358, .iinc 3 6, 6, 0)],
  [(1361, .goto (-1343), 0, 18), (1364, .iconst 1, 1, 0), (1365, .ireturn, 0, 0)]]
def qp_kL : List (List (Nat × Instr × Int32 × Nat)) := qp_kL0 ++ (qp_kL1 ++ (qp_kL2 ++ (qp_kL3 ++ (qp_kL4 ++ (qp_kL5 ++ (qp_kL6 ++ (qp_kL7 ++ (qp_kL8 ++ (qp_kL9 ++ (qp_kL10))))))))))
def qp_ks : List (List (List (Nat × Instr × Int32 × Nat))) := [qp_k0, qp_k1, qp_k2, qp_k3, qp_k4, qp_k5, qp_k6, qp_k7, qp_k8, qp_k9, qp_k10, qp_k11, qp_k12, qp_k13, qp_k14, qp_k15, qp_k16, qp_k17, qp_k18, qp_k19, qp_k20, qp_k21, qp_k22, qp_k23, qp_k24, qp_k25, qp_k26, qp_k27, qp_k28, qp_k29, qp_k30, qp_k31, qp_k32, qp_k33, qp_k34, qp_k35, qp_k36, qp_k37, qp_k38, qp_k39, qp_k40, qp_k41, qp_k42, qp_k43, qp_k44, qp_k45, qp_k46, qp_k47, qp_k48, qp_k49, qp_k50, qp_k51, qp_k52, qp_k53, qp_k54, qp_k55, qp_k56, qp_k57, qp_k58, qp_k59, qp_k60, qp_k61, qp_k62, qp_k63, qp_k64, qp_k65, qp_k66, qp_k67, qp_k68, qp_k69, qp_k70, qp_k71, qp_k72, qp_k73, qp_k74, qp_k75, qp_k76, qp_k77, qp_k78, qp_k79, qp_k80, qp_k81, qp_k82, qp_k83, qp_k84, qp_k85, qp_k86, qp_k87, qp_k88, qp_k89, qp_k90, qp_k91, qp_k92, qp_k93, qp_k94, qp_k95, qp_k96, qp_k97, qp_k98, qp_k99, qp_k100, qp_k101, qp_k102, qp_k103, qp_k104, qp_k105, qp_k106, qp_k107, qp_k108, qp_k109, qp_k110, qp_k111, qp_k112, qp_k113, qp_k114, qp_k115, qp_k116, qp_k117, qp_k118, qp_k119, qp_k120, qp_k121, qp_k122, qp_k123, qp_k124, qp_k125, qp_k126, qp_k127, qp_k128, qp_k129, qp_k130, qp_k131, qp_k132, qp_k133, qp_k134, qp_k135, qp_k136, qp_k137, qp_k138, qp_k139, qp_k140, qp_k141, qp_k142, qp_k143, qp_k144, qp_k145, qp_k146, qp_k147, qp_k148, qp_k149, qp_k150, qp_k151, qp_k152, qp_k153, qp_k154, qp_k155, qp_k156, qp_k157, qp_k158, qp_k159, qp_k160, qp_k161, qp_k162, qp_k163, qp_k164, qp_k165, qp_k166, qp_k167, qp_k168, qp_k169, qp_k170, qp_k171, qp_k172, qp_k173, qp_k174, qp_k175, qp_k176, qp_k177, qp_k178, qp_k179, qp_k180, qp_k181, qp_k182, qp_k183, qp_k184, qp_k185, qp_k186, qp_k187, qp_k188, qp_k189, qp_k190, qp_k191, qp_k192, qp_k193, qp_k194, qp_k195, qp_k196, qp_k197, qp_k198, qp_k199, qp_k200, qp_k201, qp_k202, qp_k203, qp_k204, qp_k205, qp_k206, qp_k207, qp_k208, qp_k209, qp_k210, qp_k211, qp_k212, qp_k213, qp_k214, qp_k215, qp_k216, qp_k217, qp_k218, qp_k219, qp_k220, qp_k221, qp_k222, qp_k223, qp_k224, qp_k225, qp_k226, qp_k227, qp_k228, qp_k229, qp_k230, qp_k231, qp_k232, qp_k233, qp_k234, qp_k235, qp_k236, qp_k237, qp_k238]
def qp_kk (mi : Nat) : List (List (Nat × Instr × Int32 × Nat)) := qp_ks.getD mi []

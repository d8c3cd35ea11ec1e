/-! THE MEMORY BEHIND THE CONSTRUCTOR, and the law's rows (36 and on): cells and references stay; ints (I) and longs (J) change -/
def qp_P0L : List (List (Option Nat)) := [
  [some 1, some 4, some 7, some 10, some 14, some 25, some 29, some 33, some 34, some 35, none, none, none, none],
  [none, some 2, some 3],
  [],
  [],
  [none, some 5, some 6],
  [],
  [],
  [none, some 8, some 9],
  [],
  [],
  [some 11, some 4, none, none],
  [none, none, some 12, some 13],
  [],
  [],
  [some 15, some 18, none, none, none, none, some 23, some 24],
  [none, none, some 16, some 17],
  [],
  [],
  [none, none, some 15, none, none, none, some 19, some 20, some 21, some 22],
  [],
  [],
  [],
  [],
  [],
  [],
  [some 14, some 26, some 27, some 28, none, none],
  [],
  [],
  [],
  [none, some 14, some 30, some 31, some 32],
  [],
  [],
  [],
  [some 14, none, none],
  [some 14, none],
  []]
def qp_P0 (k j : Nat) : Option Nat := match qp_nth qp_P0L k with
  | some l => (match qp_nth l j with | some x => x | none => none)
  | none => none
def qp_S0L : List (Nat × Nat) := [(0, 14), (1, 3), (50, 6), (50, 240), (1, 3), (50, 4), (50, 240), (1, 3), (50, 3), (50, 120), (2, 4), (3, 4), (50, 6), (50, 6), (4, 8), (3, 4), (50, 6), (50, 6), (5, 10), (50, 6), (50, 6), (50, 6), (50, 6), (50, 12), (50, 40), (6, 6), (50, 720), (50, 720), (51, 720), (7, 5), (50, 6), (50, 6), (50, 24), (8, 3), (9, 2), (50, 6), (50, 34), (50, 6), (50, 6), (50, 16), (50, 16)]
def qp_S0 (k : Nat) : Nat × Nat := match qp_nth qp_S0L k with
  | some x => x
  | none => (0, 0)
/-- with so many cells and slots -/
abbrev qp_mkE (c q : Nat) (I : Nat → Nat → Int32) (J : Nat → Nat → Int64) : qp_M := (I, J, qp_P0, qp_S0, c, q)
abbrev qp_mk (I : Nat → Nat → Int32) (J : Nat → Nat → Int64) : qp_M := qp_mkE 36 2984 I J
/-- a method's number of arguments, its class, how it is called -/
def qp_fv (mj na oj k : Nat) : Prop := mj < 141 ∧ qp_na mj = na ∧ qp_o mj = oj ∧ qp_stL8.getD mj 0 = k
theorem qp_f0 : qp_fv 0 0 0 2 := by unfold qp_fv; decide +kernel
theorem qp_ok0 : qp_ok (qp_o 0) (qp_b 0) qp_k0 := qp_ok_of qp_h0
theorem qp_r0 : qp_rt 0 = none ∧ qp_mL 0 = 1 := by decide +kernel
theorem qp_f1 : qp_fv 1 2 1 2 := by unfold qp_fv; decide +kernel
theorem qp_ok1 : qp_ok (qp_o 1) (qp_b 1) qp_k1 := qp_ok_of qp_h1
theorem qp_r1 : qp_rt 1 = none ∧ qp_mL 1 = 4 := by decide +kernel
theorem qp_f2 : qp_fv 2 2 12 1 := by unfold qp_fv; decide +kernel
theorem qp_ok2 : qp_ok (qp_o 2) (qp_b 2) qp_k2 := qp_ok_of qp_h2
theorem qp_r2 : qp_rt 2 = some .int ∧ qp_mL 2 = 2 := by decide +kernel
theorem qp_f3 : qp_fv 3 1 2 2 := by unfold qp_fv; decide +kernel
theorem qp_ok3 : qp_ok (qp_o 3) (qp_b 3) qp_k3 := qp_ok_of qp_h3
theorem qp_r3 : qp_rt 3 = none ∧ qp_mL 3 = 2 := by decide +kernel
theorem qp_f4 : qp_fv 4 0 3 2 := by unfold qp_fv; decide +kernel
theorem qp_ok4 : qp_ok (qp_o 4) (qp_b 4) qp_k4 := qp_ok_of qp_h4
theorem qp_r4 : qp_rt 4 = none ∧ qp_mL 4 = 1 := by decide +kernel
theorem qp_f5 : qp_fv 5 0 4 2 := by unfold qp_fv; decide +kernel
theorem qp_ok5 : qp_ok (qp_o 5) (qp_b 5) qp_k5 := qp_ok_of qp_h5
theorem qp_r5 : qp_rt 5 = none ∧ qp_mL 5 = 1 := by decide +kernel
theorem qp_f6 : qp_fv 6 1 5 2 := by unfold qp_fv; decide +kernel
theorem qp_ok6 : qp_ok (qp_o 6) (qp_b 6) qp_k6 := qp_ok_of qp_h6
theorem qp_r6 : qp_rt 6 = none ∧ qp_mL 6 = 2 := by decide +kernel
theorem qp_f7 : qp_fv 7 1 6 2 := by unfold qp_fv; decide +kernel
theorem qp_ok7 : qp_ok (qp_o 7) (qp_b 7) qp_k7 := qp_ok_of qp_h7
theorem qp_r7 : qp_rt 7 = none ∧ qp_mL 7 = 2 := by decide +kernel
theorem qp_f8 : qp_fv 8 1 7 2 := by unfold qp_fv; decide +kernel
theorem qp_ok8 : qp_ok (qp_o 8) (qp_b 8) qp_k8 := qp_ok_of qp_h8
theorem qp_r8 : qp_rt 8 = none ∧ qp_mL 8 = 2 := by decide +kernel
theorem qp_f9 : qp_fv 9 1 8 2 := by unfold qp_fv; decide +kernel
theorem qp_ok9 : qp_ok (qp_o 9) (qp_b 9) qp_k9 := qp_ok_of qp_h9
theorem qp_r9 : qp_rt 9 = none ∧ qp_mL 9 = 2 := by decide +kernel
theorem qp_f10 : qp_fv 10 1 9 2 := by unfold qp_fv; decide +kernel
theorem qp_ok10 : qp_ok (qp_o 10) (qp_b 10) qp_k10 := qp_ok_of qp_h10
theorem qp_r10 : qp_rt 10 = none ∧ qp_mL 10 = 2 := by decide +kernel
theorem qp_f11 : qp_fv 11 2 0 0 := by unfold qp_fv; decide +kernel
theorem qp_ok11 : qp_ok (qp_o 11) (qp_b 11) qp_k11 := qp_ok_of qp_h11
theorem qp_r11 : qp_rt 11 = some .int ∧ qp_mL 11 = 3 := by decide +kernel
theorem qp_f12 : qp_fv 12 4 0 0 := by unfold qp_fv; decide +kernel
theorem qp_ok12 : qp_ok (qp_o 12) (qp_b 12) qp_k12 := qp_ok_of qp_h12
theorem qp_r12 : qp_rt 12 = some .int ∧ qp_mL 12 = 5 := by decide +kernel
theorem qp_f13 : qp_fv 13 1 1 0 := by unfold qp_fv; decide +kernel
theorem qp_ok13 : qp_ok (qp_o 13) (qp_b 13) qp_k13 := qp_ok_of qp_h13
theorem qp_r13 : qp_rt 13 = some .boolean ∧ qp_mL 13 = 2 := by decide +kernel
theorem qp_f14 : qp_fv 14 1 0 0 := by unfold qp_fv; decide +kernel
theorem qp_ok14 : qp_ok (qp_o 14) (qp_b 14) qp_k14 := qp_ok_of qp_h14
theorem qp_r14 : qp_rt 14 = some .int ∧ qp_mL 14 = 2 := by decide +kernel
theorem qp_f15 : qp_fv 15 3 1 0 := by unfold qp_fv; decide +kernel
theorem qp_ok15 : qp_ok (qp_o 15) (qp_b 15) qp_k15 := qp_ok_of qp_h15
theorem qp_r15 : qp_rt 15 = none ∧ qp_mL 15 = 5 := by decide +kernel
theorem qp_f16 : qp_fv 16 3 1 0 := by unfold qp_fv; decide +kernel
theorem qp_ok16 : qp_ok (qp_o 16) (qp_b 16) qp_k16 := qp_ok_of qp_h16
theorem qp_r16 : qp_rt 16 = none ∧ qp_mL 16 = 5 := by decide +kernel
theorem qp_f17 : qp_fv 17 2 1 0 := by unfold qp_fv; decide +kernel
theorem qp_ok17 : qp_ok (qp_o 17) (qp_b 17) qp_k17 := qp_ok_of qp_h17
theorem qp_r17 : qp_rt 17 = some .boolean ∧ qp_mL 17 = 3 := by decide +kernel
theorem qp_f18 : qp_fv 18 3 0 0 := by unfold qp_fv; decide +kernel
theorem qp_ok18 : qp_ok (qp_o 18) (qp_b 18) qp_k18 := qp_ok_of qp_h18
theorem qp_r18 : qp_rt 18 = some .int ∧ qp_mL 18 = 6 := by decide +kernel
theorem qp_f19 : qp_fv 19 3 0 0 := by unfold qp_fv; decide +kernel
theorem qp_ok19 : qp_ok (qp_o 19) (qp_b 19) qp_k19 := qp_ok_of qp_h19
theorem qp_r19 : qp_rt 19 = some .int ∧ qp_mL 19 = 5 := by decide +kernel
theorem qp_f20 : qp_fv 20 2 0 0 := by unfold qp_fv; decide +kernel
theorem qp_ok20 : qp_ok (qp_o 20) (qp_b 20) qp_k20 := qp_ok_of qp_h20
theorem qp_r20 : qp_rt 20 = some .int ∧ qp_mL 20 = 3 := by decide +kernel
theorem qp_f21 : qp_fv 21 1 1 0 := by unfold qp_fv; decide +kernel
theorem qp_ok21 : qp_ok (qp_o 21) (qp_b 21) qp_k21 := qp_ok_of qp_h21
theorem qp_r21 : qp_rt 21 = some .boolean ∧ qp_mL 21 = 2 := by decide +kernel
theorem qp_f22 : qp_fv 22 1 1 0 := by unfold qp_fv; decide +kernel
theorem qp_ok22 : qp_ok (qp_o 22) (qp_b 22) qp_k22 := qp_ok_of qp_h22
theorem qp_r22 : qp_rt 22 = some .int ∧ qp_mL 22 = 2 := by decide +kernel
theorem qp_f23 : qp_fv 23 2 1 0 := by unfold qp_fv; decide +kernel
theorem qp_ok23 : qp_ok (qp_o 23) (qp_b 23) qp_k23 := qp_ok_of qp_h23
theorem qp_r23 : qp_rt 23 = some .int ∧ qp_mL 23 = 4 := by decide +kernel
theorem qp_f24 : qp_fv 24 1 0 0 := by unfold qp_fv; decide +kernel
theorem qp_ok24 : qp_ok (qp_o 24) (qp_b 24) qp_k24 := qp_ok_of qp_h24
theorem qp_r24 : qp_rt 24 = some .int ∧ qp_mL 24 = 2 := by decide +kernel
theorem qp_f25 : qp_fv 25 2 0 0 := by unfold qp_fv; decide +kernel
theorem qp_ok25 : qp_ok (qp_o 25) (qp_b 25) qp_k25 := qp_ok_of qp_h25
theorem qp_r25 : qp_rt 25 = some .int ∧ qp_mL 25 = 4 := by decide +kernel
theorem qp_f26 : qp_fv 26 1 0 0 := by unfold qp_fv; decide +kernel
theorem qp_ok26 : qp_ok (qp_o 26) (qp_b 26) qp_k26 := qp_ok_of qp_h26
theorem qp_r26 : qp_rt 26 = some .int ∧ qp_mL 26 = 4 := by decide +kernel
theorem qp_f27 : qp_fv 27 1 2 0 := by unfold qp_fv; decide +kernel
theorem qp_ok27 : qp_ok (qp_o 27) (qp_b 27) qp_k27 := qp_ok_of qp_h27
theorem qp_r27 : qp_rt 27 = some .int ∧ qp_mL 27 = 2 := by decide +kernel
theorem qp_f28 : qp_fv 28 0 3 0 := by unfold qp_fv; decide +kernel
theorem qp_ok28 : qp_ok (qp_o 28) (qp_b 28) qp_k28 := qp_ok_of qp_h28
theorem qp_r28 : qp_rt 28 = none ∧ qp_mL 28 = 1 := by decide +kernel
theorem qp_f29 : qp_fv 29 0 2 0 := by unfold qp_fv; decide +kernel
theorem qp_ok29 : qp_ok (qp_o 29) (qp_b 29) qp_k29 := qp_ok_of qp_h29
theorem qp_r29 : qp_rt 29 = none ∧ qp_mL 29 = 1 := by decide +kernel
theorem qp_f30 : qp_fv 30 0 2 0 := by unfold qp_fv; decide +kernel
theorem qp_ok30 : qp_ok (qp_o 30) (qp_b 30) qp_k30 := qp_ok_of qp_h30
theorem qp_r30 : qp_rt 30 = some .boolean ∧ qp_mL 30 = 3 := by decide +kernel
theorem qp_f31 : qp_fv 31 1 2 0 := by unfold qp_fv; decide +kernel
theorem qp_ok31 : qp_ok (qp_o 31) (qp_b 31) qp_k31 := qp_ok_of qp_h31
theorem qp_r31 : qp_rt 31 = some .int ∧ qp_mL 31 = 4 := by decide +kernel
theorem qp_f32 : qp_fv 32 0 2 0 := by unfold qp_fv; decide +kernel
theorem qp_ok32 : qp_ok (qp_o 32) (qp_b 32) qp_k32 := qp_ok_of qp_h32
theorem qp_r32 : qp_rt 32 = some .int ∧ qp_mL 32 = 4 := by decide +kernel
theorem qp_f33 : qp_fv 33 1 2 0 := by unfold qp_fv; decide +kernel
theorem qp_ok33 : qp_ok (qp_o 33) (qp_b 33) qp_k33 := qp_ok_of qp_h33
theorem qp_r33 : qp_rt 33 = some .int ∧ qp_mL 33 = 3 := by decide +kernel
theorem qp_f34 : qp_fv 34 2 3 0 := by unfold qp_fv; decide +kernel
theorem qp_ok34 : qp_ok (qp_o 34) (qp_b 34) qp_k34 := qp_ok_of qp_h34
theorem qp_r34 : qp_rt 34 = none ∧ qp_mL 34 = 3 := by decide +kernel
theorem qp_f35 : qp_fv 35 1 3 0 := by unfold qp_fv; decide +kernel
theorem qp_ok35 : qp_ok (qp_o 35) (qp_b 35) qp_k35 := qp_ok_of qp_h35
theorem qp_r35 : qp_rt 35 = none ∧ qp_mL 35 = 3 := by decide +kernel
theorem qp_f36 : qp_fv 36 1 3 0 := by unfold qp_fv; decide +kernel
theorem qp_ok36 : qp_ok (qp_o 36) (qp_b 36) qp_k36 := qp_ok_of qp_h36
theorem qp_r36 : qp_rt 36 = some .int ∧ qp_mL 36 = 2 := by decide +kernel
theorem qp_f37 : qp_fv 37 1 3 0 := by unfold qp_fv; decide +kernel
theorem qp_ok37 : qp_ok (qp_o 37) (qp_b 37) qp_k37 := qp_ok_of qp_h37
theorem qp_r37 : qp_rt 37 = some .int ∧ qp_mL 37 = 2 := by decide +kernel
theorem qp_f38 : qp_fv 38 0 4 0 := by unfold qp_fv; decide +kernel
theorem qp_ok38 : qp_ok (qp_o 38) (qp_b 38) qp_k38 := qp_ok_of qp_h38
theorem qp_r38 : qp_rt 38 = none ∧ qp_mL 38 = 1 := by decide +kernel
theorem qp_f39 : qp_fv 39 1 10 1 := by unfold qp_fv; decide +kernel
theorem qp_ok39 : qp_ok (qp_o 39) (qp_b 39) qp_k39 := qp_ok_of qp_h39
theorem qp_r39 : qp_rt 39 = some .int ∧ qp_mL 39 = 3 := by decide +kernel
theorem qp_f40 : qp_fv 40 3 10 1 := by unfold qp_fv; decide +kernel
theorem qp_ok40 : qp_ok (qp_o 40) (qp_b 40) qp_k40 := qp_ok_of qp_h40
theorem qp_r40 : qp_rt 40 = some .int ∧ qp_mL 40 = 3 := by decide +kernel
theorem qp_f41 : qp_fv 41 1 1 0 := by unfold qp_fv; decide +kernel
theorem qp_ok41 : qp_ok (qp_o 41) (qp_b 41) qp_k41 := qp_ok_of qp_h41
theorem qp_r41 : qp_rt 41 = none ∧ qp_mL 41 = 2 := by decide +kernel
theorem qp_f42 : qp_fv 42 2 0 0 := by unfold qp_fv; decide +kernel
theorem qp_ok42 : qp_ok (qp_o 42) (qp_b 42) qp_k42 := qp_ok_of qp_h42
theorem qp_r42 : qp_rt 42 = some .int ∧ qp_mL 42 = 4 := by decide +kernel
theorem qp_f43 : qp_fv 43 1 3 0 := by unfold qp_fv; decide +kernel
theorem qp_ok43 : qp_ok (qp_o 43) (qp_b 43) qp_k43 := qp_ok_of qp_h43
theorem qp_r43 : qp_rt 43 = some .boolean ∧ qp_mL 43 = 2 := by decide +kernel
theorem qp_f44 : qp_fv 44 1 4 0 := by unfold qp_fv; decide +kernel
theorem qp_ok44 : qp_ok (qp_o 44) (qp_b 44) qp_k44 := qp_ok_of qp_h44
theorem qp_r44 : qp_rt 44 = some .boolean ∧ qp_mL 44 = 2 := by decide +kernel
theorem qp_f45 : qp_fv 45 1 4 0 := by unfold qp_fv; decide +kernel
theorem qp_ok45 : qp_ok (qp_o 45) (qp_b 45) qp_k45 := qp_ok_of qp_h45
theorem qp_r45 : qp_rt 45 = some .int ∧ qp_mL 45 = 2 := by decide +kernel
theorem qp_f46 : qp_fv 46 3 10 1 := by unfold qp_fv; decide +kernel
theorem qp_ok46 : qp_ok (qp_o 46) (qp_b 46) qp_k46 := qp_ok_of qp_h46
theorem qp_r46 : qp_rt 46 = some .int ∧ qp_mL 46 = 4 := by decide +kernel
theorem qp_f47 : qp_fv 47 2 10 1 := by unfold qp_fv; decide +kernel
theorem qp_ok47 : qp_ok (qp_o 47) (qp_b 47) qp_k47 := qp_ok_of qp_h47
theorem qp_r47 : qp_rt 47 = some .int ∧ qp_mL 47 = 2 := by decide +kernel
theorem qp_f48 : qp_fv 48 2 4 0 := by unfold qp_fv; decide +kernel
theorem qp_ok48 : qp_ok (qp_o 48) (qp_b 48) qp_k48 := qp_ok_of qp_h48
theorem qp_r48 : qp_rt 48 = none ∧ qp_mL 48 = 3 := by decide +kernel
theorem qp_f49 : qp_fv 49 1 4 0 := by unfold qp_fv; decide +kernel
theorem qp_ok49 : qp_ok (qp_o 49) (qp_b 49) qp_k49 := qp_ok_of qp_h49
theorem qp_r49 : qp_rt 49 = none ∧ qp_mL 49 = 2 := by decide +kernel
theorem qp_f50 : qp_fv 50 3 10 1 := by unfold qp_fv; decide +kernel
theorem qp_ok50 : qp_ok (qp_o 50) (qp_b 50) qp_k50 := qp_ok_of qp_h50
theorem qp_r50 : qp_rt 50 = some .int ∧ qp_mL 50 = 7 := by decide +kernel
theorem qp_f51 : qp_fv 51 2 10 1 := by unfold qp_fv; decide +kernel
theorem qp_ok51 : qp_ok (qp_o 51) (qp_b 51) qp_k51 := qp_ok_of qp_h51
theorem qp_r51 : qp_rt 51 = some .int ∧ qp_mL 51 = 2 := by decide +kernel
theorem qp_f52 : qp_fv 52 2 10 1 := by unfold qp_fv; decide +kernel
theorem qp_ok52 : qp_ok (qp_o 52) (qp_b 52) qp_k52 := qp_ok_of qp_h52
theorem qp_r52 : qp_rt 52 = some .int ∧ qp_mL 52 = 2 := by decide +kernel
theorem qp_f53 : qp_fv 53 2 4 0 := by unfold qp_fv; decide +kernel
theorem qp_ok53 : qp_ok (qp_o 53) (qp_b 53) qp_k53 := qp_ok_of qp_h53
theorem qp_r53 : qp_rt 53 = some .int ∧ qp_mL 53 = 9 := by decide +kernel
theorem qp_f54 : qp_fv 54 1 0 0 := by unfold qp_fv; decide +kernel
theorem qp_ok54 : qp_ok (qp_o 54) (qp_b 54) qp_k54 := qp_ok_of qp_h54
theorem qp_r54 : qp_rt 54 = some .int ∧ qp_mL 54 = 3 := by decide +kernel
theorem qp_f55 : qp_fv 55 1 4 0 := by unfold qp_fv; decide +kernel
theorem qp_ok55 : qp_ok (qp_o 55) (qp_b 55) qp_k55 := qp_ok_of qp_h55
theorem qp_r55 : qp_rt 55 = some .boolean ∧ qp_mL 55 = 2 := by decide +kernel
theorem qp_f56 : qp_fv 56 1 0 0 := by unfold qp_fv; decide +kernel
theorem qp_ok56 : qp_ok (qp_o 56) (qp_b 56) qp_k56 := qp_ok_of qp_h56
theorem qp_r56 : qp_rt 56 = some .int ∧ qp_mL 56 = 3 := by decide +kernel
theorem qp_f57 : qp_fv 57 1 0 0 := by unfold qp_fv; decide +kernel
theorem qp_ok57 : qp_ok (qp_o 57) (qp_b 57) qp_k57 := qp_ok_of qp_h57
theorem qp_r57 : qp_rt 57 = some .int ∧ qp_mL 57 = 3 := by decide +kernel
theorem qp_f58 : qp_fv 58 1 4 0 := by unfold qp_fv; decide +kernel
theorem qp_ok58 : qp_ok (qp_o 58) (qp_b 58) qp_k58 := qp_ok_of qp_h58
theorem qp_r58 : qp_rt 58 = none ∧ qp_mL 58 = 3 := by decide +kernel
theorem qp_f59 : qp_fv 59 1 0 0 := by unfold qp_fv; decide +kernel
theorem qp_ok59 : qp_ok (qp_o 59) (qp_b 59) qp_k59 := qp_ok_of qp_h59
theorem qp_r59 : qp_rt 59 = some .int ∧ qp_mL 59 = 3 := by decide +kernel
theorem qp_f60 : qp_fv 60 1 4 0 := by unfold qp_fv; decide +kernel
theorem qp_ok60 : qp_ok (qp_o 60) (qp_b 60) qp_k60 := qp_ok_of qp_h60
theorem qp_r60 : qp_rt 60 = some .int ∧ qp_mL 60 = 2 := by decide +kernel
theorem qp_f61 : qp_fv 61 1 0 0 := by unfold qp_fv; decide +kernel
theorem qp_ok61 : qp_ok (qp_o 61) (qp_b 61) qp_k61 := qp_ok_of qp_h61
theorem qp_r61 : qp_rt 61 = some .int ∧ qp_mL 61 = 5 := by decide +kernel
theorem qp_f62 : qp_fv 62 1 0 0 := by unfold qp_fv; decide +kernel
theorem qp_ok62 : qp_ok (qp_o 62) (qp_b 62) qp_k62 := qp_ok_of qp_h62
theorem qp_r62 : qp_rt 62 = some .int ∧ qp_mL 62 = 2 := by decide +kernel
theorem qp_f63 : qp_fv 63 2 0 0 := by unfold qp_fv; decide +kernel
theorem qp_ok63 : qp_ok (qp_o 63) (qp_b 63) qp_k63 := qp_ok_of qp_h63
theorem qp_r63 : qp_rt 63 = some .int ∧ qp_mL 63 = 3 := by decide +kernel
theorem qp_f64 : qp_fv 64 2 3 1 := by unfold qp_fv; decide +kernel
theorem qp_ok64 : qp_ok (qp_o 64) (qp_b 64) qp_k64 := qp_ok_of qp_h64
theorem qp_r64 : qp_rt 64 = some .int ∧ qp_mL 64 = 2 := by decide +kernel
theorem qp_f65 : qp_fv 65 2 0 0 := by unfold qp_fv; decide +kernel
theorem qp_ok65 : qp_ok (qp_o 65) (qp_b 65) qp_k65 := qp_ok_of qp_h65
theorem qp_r65 : qp_rt 65 = some .int ∧ qp_mL 65 = 3 := by decide +kernel
theorem qp_f66 : qp_fv 66 2 4 0 := by unfold qp_fv; decide +kernel
theorem qp_ok66 : qp_ok (qp_o 66) (qp_b 66) qp_k66 := qp_ok_of qp_h66
theorem qp_r66 : qp_rt 66 = some .int ∧ qp_mL 66 = 3 := by decide +kernel
theorem qp_f67 : qp_fv 67 1 4 0 := by unfold qp_fv; decide +kernel
theorem qp_ok67 : qp_ok (qp_o 67) (qp_b 67) qp_k67 := qp_ok_of qp_h67
theorem qp_r67 : qp_rt 67 = none ∧ qp_mL 67 = 2 := by decide +kernel
theorem qp_f68 : qp_fv 68 3 5 0 := by unfold qp_fv; decide +kernel
theorem qp_ok68 : qp_ok (qp_o 68) (qp_b 68) qp_k68 := qp_ok_of qp_h68
theorem qp_r68 : qp_rt 68 = none ∧ qp_mL 68 = 8 := by decide +kernel
theorem qp_f69 : qp_fv 69 2 3 1 := by unfold qp_fv; decide +kernel
theorem qp_ok69 : qp_ok (qp_o 69) (qp_b 69) qp_k69 := qp_ok_of qp_h69
theorem qp_r69 : qp_rt 69 = some .boolean ∧ qp_mL 69 = 2 := by decide +kernel
theorem qp_f70 : qp_fv 70 2 5 0 := by unfold qp_fv; decide +kernel
theorem qp_ok70 : qp_ok (qp_o 70) (qp_b 70) qp_k70 := qp_ok_of qp_h70
theorem qp_r70 : qp_rt 70 = none ∧ qp_mL 70 = 5 := by decide +kernel
theorem qp_f71 : qp_fv 71 2 12 1 := by unfold qp_fv; decide +kernel
theorem qp_ok71 : qp_ok (qp_o 71) (qp_b 71) qp_k71 := qp_ok_of qp_h71
theorem qp_r71 : qp_rt 71 = some .int ∧ qp_mL 71 = 2 := by decide +kernel
theorem qp_f72 : qp_fv 72 1 5 0 := by unfold qp_fv; decide +kernel
theorem qp_ok72 : qp_ok (qp_o 72) (qp_b 72) qp_k72 := qp_ok_of qp_h72
theorem qp_r72 : qp_rt 72 = some .int ∧ qp_mL 72 = 2 := by decide +kernel
theorem qp_f73 : qp_fv 73 1 0 0 := by unfold qp_fv; decide +kernel
theorem qp_ok73 : qp_ok (qp_o 73) (qp_b 73) qp_k73 := qp_ok_of qp_h73
theorem qp_r73 : qp_rt 73 = some .int ∧ qp_mL 73 = 6 := by decide +kernel
theorem qp_f74 : qp_fv 74 1 0 0 := by unfold qp_fv; decide +kernel
theorem qp_ok74 : qp_ok (qp_o 74) (qp_b 74) qp_k74 := qp_ok_of qp_h74
theorem qp_r74 : qp_rt 74 = some .int ∧ qp_mL 74 = 2 := by decide +kernel
theorem qp_f75 : qp_fv 75 4 0 0 := by unfold qp_fv; decide +kernel
theorem qp_ok75 : qp_ok (qp_o 75) (qp_b 75) qp_k75 := qp_ok_of qp_h75
theorem qp_r75 : qp_rt 75 = some .int ∧ qp_mL 75 = 8 := by decide +kernel
theorem qp_f76 : qp_fv 76 3 6 0 := by unfold qp_fv; decide +kernel
theorem qp_ok76 : qp_ok (qp_o 76) (qp_b 76) qp_k76 := qp_ok_of qp_h76
theorem qp_r76 : qp_rt 76 = some .int ∧ qp_mL 76 = 8 := by decide +kernel
theorem qp_f77 : qp_fv 77 2 6 0 := by unfold qp_fv; decide +kernel
theorem qp_ok77 : qp_ok (qp_o 77) (qp_b 77) qp_k77 := qp_ok_of qp_h77
theorem qp_r77 : qp_rt 77 = none ∧ qp_mL 77 = 4 := by decide +kernel
theorem qp_f78 : qp_fv 78 2 10 1 := by unfold qp_fv; decide +kernel
theorem qp_ok78 : qp_ok (qp_o 78) (qp_b 78) qp_k78 := qp_ok_of qp_h78
theorem qp_r78 : qp_rt 78 = some .int ∧ qp_mL 78 = 6 := by decide +kernel
theorem qp_f79 : qp_fv 79 1 11 1 := by unfold qp_fv; decide +kernel
theorem qp_ok79 : qp_ok (qp_o 79) (qp_b 79) qp_k79 := qp_ok_of qp_h79
theorem qp_r79 : qp_rt 79 = some .int ∧ qp_mL 79 = 1 := by decide +kernel
theorem qp_f80 : qp_fv 80 4 6 0 := by unfold qp_fv; decide +kernel
theorem qp_ok80 : qp_ok (qp_o 80) (qp_b 80) qp_k80 := qp_ok_of qp_h80
theorem qp_r80 : qp_rt 80 = some .boolean ∧ qp_mL 80 = 5 := by decide +kernel
theorem qp_f81 : qp_fv 81 4 10 1 := by unfold qp_fv; decide +kernel
theorem qp_ok81 : qp_ok (qp_o 81) (qp_b 81) qp_k81 := qp_ok_of qp_h81
theorem qp_r81 : qp_rt 81 = some .boolean ∧ qp_mL 81 = 4 := by decide +kernel
theorem qp_f82 : qp_fv 82 1 12 1 := by unfold qp_fv; decide +kernel
theorem qp_ok82 : qp_ok (qp_o 82) (qp_b 82) qp_k82 := qp_ok_of qp_h82
theorem qp_r82 : qp_rt 82 = some .int ∧ qp_mL 82 = 1 := by decide +kernel
theorem qp_f83 : qp_fv 83 1 5 0 := by unfold qp_fv; decide +kernel
theorem qp_ok83 : qp_ok (qp_o 83) (qp_b 83) qp_k83 := qp_ok_of qp_h83
theorem qp_r83 : qp_rt 83 = some .int ∧ qp_mL 83 = 2 := by decide +kernel
theorem qp_f84 : qp_fv 84 2 6 0 := by unfold qp_fv; decide +kernel
theorem qp_ok84 : qp_ok (qp_o 84) (qp_b 84) qp_k84 := qp_ok_of qp_h84
theorem qp_r84 : qp_rt 84 = none ∧ qp_mL 84 = 6 := by decide +kernel
theorem qp_f85 : qp_fv 85 2 6 0 := by unfold qp_fv; decide +kernel
theorem qp_ok85 : qp_ok (qp_o 85) (qp_b 85) qp_k85 := qp_ok_of qp_h85
theorem qp_r85 : qp_rt 85 = some .int ∧ qp_mL 85 = 3 := by decide +kernel
theorem qp_f86 : qp_fv 86 1 0 0 := by unfold qp_fv; decide +kernel
theorem qp_ok86 : qp_ok (qp_o 86) (qp_b 86) qp_k86 := qp_ok_of qp_h86
theorem qp_r86 : qp_rt 86 = some .int ∧ qp_mL 86 = 3 := by decide +kernel
theorem qp_f87 : qp_fv 87 1 0 0 := by unfold qp_fv; decide +kernel
theorem qp_ok87 : qp_ok (qp_o 87) (qp_b 87) qp_k87 := qp_ok_of qp_h87
theorem qp_r87 : qp_rt 87 = some .int ∧ qp_mL 87 = 6 := by decide +kernel
theorem qp_f88 : qp_fv 88 1 0 0 := by unfold qp_fv; decide +kernel
theorem qp_ok88 : qp_ok (qp_o 88) (qp_b 88) qp_k88 := qp_ok_of qp_h88
theorem qp_r88 : qp_rt 88 = none ∧ qp_mL 88 = 4 := by decide +kernel
theorem qp_f89 : qp_fv 89 0 7 0 := by unfold qp_fv; decide +kernel
theorem qp_ok89 : qp_ok (qp_o 89) (qp_b 89) qp_k89 := qp_ok_of qp_h89
theorem qp_r89 : qp_rt 89 = none ∧ qp_mL 89 = 2 := by decide +kernel
theorem qp_f90 : qp_fv 90 2 7 0 := by unfold qp_fv; decide +kernel
theorem qp_ok90 : qp_ok (qp_o 90) (qp_b 90) qp_k90 := qp_ok_of qp_h90
theorem qp_r90 : qp_rt 90 = none ∧ qp_mL 90 = 3 := by decide +kernel
theorem qp_f91 : qp_fv 91 4 7 1 := by unfold qp_fv; decide +kernel
theorem qp_ok91 : qp_ok (qp_o 91) (qp_b 91) qp_k91 := qp_ok_of qp_h91
theorem qp_r91 : qp_rt 91 = none ∧ qp_mL 91 = 6 := by decide +kernel
theorem qp_f92 : qp_fv 92 1 7 0 := by unfold qp_fv; decide +kernel
theorem qp_ok92 : qp_ok (qp_o 92) (qp_b 92) qp_k92 := qp_ok_of qp_h92
theorem qp_r92 : qp_rt 92 = none ∧ qp_mL 92 = 5 := by decide +kernel
theorem qp_f93 : qp_fv 93 2 0 0 := by unfold qp_fv; decide +kernel
theorem qp_ok93 : qp_ok (qp_o 93) (qp_b 93) qp_k93 := qp_ok_of qp_h93
theorem qp_r93 : qp_rt 93 = some .int ∧ qp_mL 93 = 7 := by decide +kernel
theorem qp_f94 : qp_fv 94 2 0 1 := by unfold qp_fv; decide +kernel
theorem qp_ok94 : qp_ok (qp_o 94) (qp_b 94) qp_k94 := qp_ok_of qp_h94
theorem qp_r94 : qp_rt 94 = some .long ∧ qp_mL 94 = 11 := by decide +kernel
theorem qp_f95 : qp_fv 95 2 0 0 := by unfold qp_fv; decide +kernel
theorem qp_ok95 : qp_ok (qp_o 95) (qp_b 95) qp_k95 := qp_ok_of qp_h95
theorem qp_r95 : qp_rt 95 = some .int ∧ qp_mL 95 = 4 := by decide +kernel
theorem qp_f96 : qp_fv 96 1 7 0 := by unfold qp_fv; decide +kernel
theorem qp_ok96 : qp_ok (qp_o 96) (qp_b 96) qp_k96 := qp_ok_of qp_h96
theorem qp_r96 : qp_rt 96 = some .int ∧ qp_mL 96 = 2 := by decide +kernel
theorem qp_f97 : qp_fv 97 1 0 0 := by unfold qp_fv; decide +kernel
theorem qp_ok97 : qp_ok (qp_o 97) (qp_b 97) qp_k97 := qp_ok_of qp_h97
theorem qp_r97 : qp_rt 97 = some .int ∧ qp_mL 97 = 5 := by decide +kernel
theorem qp_f98 : qp_fv 98 1 7 0 := by unfold qp_fv; decide +kernel
theorem qp_ok98 : qp_ok (qp_o 98) (qp_b 98) qp_k98 := qp_ok_of qp_h98
theorem qp_r98 : qp_rt 98 = some .int ∧ qp_mL 98 = 4 := by decide +kernel
theorem qp_f99 : qp_fv 99 1 0 0 := by unfold qp_fv; decide +kernel
theorem qp_ok99 : qp_ok (qp_o 99) (qp_b 99) qp_k99 := qp_ok_of qp_h99
theorem qp_r99 : qp_rt 99 = some .int ∧ qp_mL 99 = 5 := by decide +kernel
theorem qp_f100 : qp_fv 100 1 5 0 := by unfold qp_fv; decide +kernel
theorem qp_ok100 : qp_ok (qp_o 100) (qp_b 100) qp_k100 := qp_ok_of qp_h100
theorem qp_r100 : qp_rt 100 = some .int ∧ qp_mL 100 = 4 := by decide +kernel
theorem qp_f101 : qp_fv 101 1 0 0 := by unfold qp_fv; decide +kernel
theorem qp_ok101 : qp_ok (qp_o 101) (qp_b 101) qp_k101 := qp_ok_of qp_h101
theorem qp_r101 : qp_rt 101 = some .int ∧ qp_mL 101 = 7 := by decide +kernel
theorem qp_f102 : qp_fv 102 3 0 0 := by unfold qp_fv; decide +kernel
theorem qp_ok102 : qp_ok (qp_o 102) (qp_b 102) qp_k102 := qp_ok_of qp_h102
theorem qp_r102 : qp_rt 102 = some .int ∧ qp_mL 102 = 4 := by decide +kernel
theorem qp_f103 : qp_fv 103 3 8 0 := by unfold qp_fv; decide +kernel
theorem qp_ok103 : qp_ok (qp_o 103) (qp_b 103) qp_k103 := qp_ok_of qp_h103
theorem qp_r103 : qp_rt 103 = some .int ∧ qp_mL 103 = 4 := by decide +kernel
theorem qp_f104 : qp_fv 104 3 8 1 := by unfold qp_fv; decide +kernel
theorem qp_ok104 : qp_ok (qp_o 104) (qp_b 104) qp_k104 := qp_ok_of qp_h104
theorem qp_r104 : qp_rt 104 = some .int ∧ qp_mL 104 = 9 := by decide +kernel
theorem qp_f105 : qp_fv 105 1 8 0 := by unfold qp_fv; decide +kernel
theorem qp_ok105 : qp_ok (qp_o 105) (qp_b 105) qp_k105 := qp_ok_of qp_h105
theorem qp_r105 : qp_rt 105 = some .int ∧ qp_mL 105 = 2 := by decide +kernel
theorem qp_f106 : qp_fv 106 2 0 0 := by unfold qp_fv; decide +kernel
theorem qp_ok106 : qp_ok (qp_o 106) (qp_b 106) qp_k106 := qp_ok_of qp_h106
theorem qp_r106 : qp_rt 106 = some .int ∧ qp_mL 106 = 3 := by decide +kernel
theorem qp_f107 : qp_fv 107 2 9 0 := by unfold qp_fv; decide +kernel
theorem qp_ok107 : qp_ok (qp_o 107) (qp_b 107) qp_k107 := qp_ok_of qp_h107
theorem qp_r107 : qp_rt 107 = some .long ∧ qp_mL 107 = 6 := by decide +kernel
theorem qp_f108 : qp_fv 108 1 9 0 := by unfold qp_fv; decide +kernel
theorem qp_ok108 : qp_ok (qp_o 108) (qp_b 108) qp_k108 := qp_ok_of qp_h108
theorem qp_r108 : qp_rt 108 = none ∧ qp_mL 108 = 5 := by decide +kernel
theorem qp_f109 : qp_fv 109 1 9 0 := by unfold qp_fv; decide +kernel
theorem qp_ok109 : qp_ok (qp_o 109) (qp_b 109) qp_k109 := qp_ok_of qp_h109
theorem qp_r109 : qp_rt 109 = some .long ∧ qp_mL 109 = 2 := by decide +kernel
theorem qp_f110 : qp_fv 110 2 9 1 := by unfold qp_fv; decide +kernel
theorem qp_ok110 : qp_ok (qp_o 110) (qp_b 110) qp_k110 := qp_ok_of qp_h110
theorem qp_r110 : qp_rt 110 = some .long ∧ qp_mL 110 = 5 := by decide +kernel
theorem qp_f111 : qp_fv 111 0 9 0 := by unfold qp_fv; decide +kernel
theorem qp_ok111 : qp_ok (qp_o 111) (qp_b 111) qp_k111 := qp_ok_of qp_h111
theorem qp_r111 : qp_rt 111 = some .long ∧ qp_mL 111 = 1 := by decide +kernel
theorem qp_f112 : qp_fv 112 1 0 0 := by unfold qp_fv; decide +kernel
theorem qp_ok112 : qp_ok (qp_o 112) (qp_b 112) qp_k112 := qp_ok_of qp_h112
theorem qp_r112 : qp_rt 112 = some .int ∧ qp_mL 112 = 2 := by decide +kernel
theorem qp_f113 : qp_fv 113 1 9 0 := by unfold qp_fv; decide +kernel
theorem qp_ok113 : qp_ok (qp_o 113) (qp_b 113) qp_k113 := qp_ok_of qp_h113
theorem qp_r113 : qp_rt 113 = some .long ∧ qp_mL 113 = 5 := by decide +kernel
theorem qp_f114 : qp_fv 114 0 5 0 := by unfold qp_fv; decide +kernel
theorem qp_ok114 : qp_ok (qp_o 114) (qp_b 114) qp_k114 := qp_ok_of qp_h114
theorem qp_r114 : qp_rt 114 = some .int ∧ qp_mL 114 = 1 := by decide +kernel
theorem qp_f115 : qp_fv 115 2 0 0 := by unfold qp_fv; decide +kernel
theorem qp_ok115 : qp_ok (qp_o 115) (qp_b 115) qp_k115 := qp_ok_of qp_h115
theorem qp_r115 : qp_rt 115 = some .int ∧ qp_mL 115 = 6 := by decide +kernel
theorem qp_f116 : qp_fv 116 1 4 0 := by unfold qp_fv; decide +kernel
theorem qp_ok116 : qp_ok (qp_o 116) (qp_b 116) qp_k116 := qp_ok_of qp_h116
theorem qp_r116 : qp_rt 116 = none ∧ qp_mL 116 = 4 := by decide +kernel
theorem qp_f117 : qp_fv 117 0 5 0 := by unfold qp_fv; decide +kernel
theorem qp_ok117 : qp_ok (qp_o 117) (qp_b 117) qp_k117 := qp_ok_of qp_h117
theorem qp_r117 : qp_rt 117 = some .int ∧ qp_mL 117 = 1 := by decide +kernel
theorem qp_f118 : qp_fv 118 0 0 0 := by unfold qp_fv; decide +kernel
theorem qp_ok118 : qp_ok (qp_o 118) (qp_b 118) qp_k118 := qp_ok_of qp_h118
theorem qp_r118 : qp_rt 118 = some .int ∧ qp_mL 118 = 1 := by decide +kernel
theorem qp_f119 : qp_fv 119 0 0 0 := by unfold qp_fv; decide +kernel
theorem qp_ok119 : qp_ok (qp_o 119) (qp_b 119) qp_k119 := qp_ok_of qp_h119
theorem qp_r119 : qp_rt 119 = some .long ∧ qp_mL 119 = 1 := by decide +kernel
theorem qp_f120 : qp_fv 120 0 0 0 := by unfold qp_fv; decide +kernel
theorem qp_ok120 : qp_ok (qp_o 120) (qp_b 120) qp_k120 := qp_ok_of qp_h120
theorem qp_r120 : qp_rt 120 = some .long ∧ qp_mL 120 = 1 := by decide +kernel
theorem qp_f121 : qp_fv 121 1 0 0 := by unfold qp_fv; decide +kernel
theorem qp_ok121 : qp_ok (qp_o 121) (qp_b 121) qp_k121 := qp_ok_of qp_h121
theorem qp_r121 : qp_rt 121 = some .int ∧ qp_mL 121 = 2 := by decide +kernel
theorem qp_f122 : qp_fv 122 1 0 0 := by unfold qp_fv; decide +kernel
theorem qp_ok122 : qp_ok (qp_o 122) (qp_b 122) qp_k122 := qp_ok_of qp_h122
theorem qp_r122 : qp_rt 122 = some .int ∧ qp_mL 122 = 2 := by decide +kernel
theorem qp_f123 : qp_fv 123 1 3 0 := by unfold qp_fv; decide +kernel
theorem qp_ok123 : qp_ok (qp_o 123) (qp_b 123) qp_k123 := qp_ok_of qp_h123
theorem qp_r123 : qp_rt 123 = some .int ∧ qp_mL 123 = 4 := by decide +kernel
theorem qp_f124 : qp_fv 124 0 1 0 := by unfold qp_fv; decide +kernel
theorem qp_ok124 : qp_ok (qp_o 124) (qp_b 124) qp_k124 := qp_ok_of qp_h124
theorem qp_r124 : qp_rt 124 = some .int ∧ qp_mL 124 = 3 := by decide +kernel
theorem qp_f125 : qp_fv 125 0 0 0 := by unfold qp_fv; decide +kernel
theorem qp_ok125 : qp_ok (qp_o 125) (qp_b 125) qp_k125 := qp_ok_of qp_h125
theorem qp_r125 : qp_rt 125 = some .long ∧ qp_mL 125 = 5 := by decide +kernel
theorem qp_f126 : qp_fv 126 2 0 0 := by unfold qp_fv; decide +kernel
theorem qp_ok126 : qp_ok (qp_o 126) (qp_b 126) qp_k126 := qp_ok_of qp_h126
theorem qp_r126 : qp_rt 126 = some .int ∧ qp_mL 126 = 3 := by decide +kernel
theorem qp_f127 : qp_fv 127 1 5 0 := by unfold qp_fv; decide +kernel
theorem qp_ok127 : qp_ok (qp_o 127) (qp_b 127) qp_k127 := qp_ok_of qp_h127
theorem qp_r127 : qp_rt 127 = some .int ∧ qp_mL 127 = 2 := by decide +kernel
theorem qp_f128 : qp_fv 128 1 4 0 := by unfold qp_fv; decide +kernel
theorem qp_ok128 : qp_ok (qp_o 128) (qp_b 128) qp_k128 := qp_ok_of qp_h128
theorem qp_r128 : qp_rt 128 = some .int ∧ qp_mL 128 = 4 := by decide +kernel
theorem qp_f129 : qp_fv 129 1 4 0 := by unfold qp_fv; decide +kernel
theorem qp_ok129 : qp_ok (qp_o 129) (qp_b 129) qp_k129 := qp_ok_of qp_h129
theorem qp_r129 : qp_rt 129 = some .int ∧ qp_mL 129 = 2 := by decide +kernel
theorem qp_f130 : qp_fv 130 1 1 0 := by unfold qp_fv; decide +kernel
theorem qp_ok130 : qp_ok (qp_o 130) (qp_b 130) qp_k130 := qp_ok_of qp_h130
theorem qp_r130 : qp_rt 130 = some .long ∧ qp_mL 130 = 7 := by decide +kernel
theorem qp_f131 : qp_fv 131 2 13 1 := by unfold qp_fv; decide +kernel
theorem qp_ok131 : qp_ok (qp_o 131) (qp_b 131) qp_k131 := qp_ok_of qp_h131
theorem qp_r131 : qp_rt 131 = some .int ∧ qp_mL 131 = 2 := by decide +kernel
theorem qp_f132 : qp_fv 132 2 13 1 := by unfold qp_fv; decide +kernel
theorem qp_ok132 : qp_ok (qp_o 132) (qp_b 132) qp_k132 := qp_ok_of qp_h132
theorem qp_r132 : qp_rt 132 = some .int ∧ qp_mL 132 = 2 := by decide +kernel
theorem qp_f133 : qp_fv 133 2 13 1 := by unfold qp_fv; decide +kernel
theorem qp_ok133 : qp_ok (qp_o 133) (qp_b 133) qp_k133 := qp_ok_of qp_h133
theorem qp_r133 : qp_rt 133 = none ∧ qp_mL 133 = 4 := by decide +kernel
theorem qp_f134 : qp_fv 134 2 13 1 := by unfold qp_fv; decide +kernel
theorem qp_ok134 : qp_ok (qp_o 134) (qp_b 134) qp_k134 := qp_ok_of qp_h134
theorem qp_r134 : qp_rt 134 = some .boolean ∧ qp_mL 134 = 5 := by decide +kernel
theorem qp_f135 : qp_fv 135 2 0 0 := by unfold qp_fv; decide +kernel
theorem qp_ok135 : qp_ok (qp_o 135) (qp_b 135) qp_k135 := qp_ok_of qp_h135
theorem qp_r135 : qp_rt 135 = some .int ∧ qp_mL 135 = 3 := by decide +kernel
theorem qp_f136 : qp_fv 136 3 0 0 := by unfold qp_fv; decide +kernel
theorem qp_ok136 : qp_ok (qp_o 136) (qp_b 136) qp_k136 := qp_ok_of qp_h136
theorem qp_r136 : qp_rt 136 = some .int ∧ qp_mL 136 = 6 := by decide +kernel
theorem qp_f137 : qp_fv 137 1 13 1 := by unfold qp_fv; decide +kernel
theorem qp_ok137 : qp_ok (qp_o 137) (qp_b 137) qp_k137 := qp_ok_of qp_h137
theorem qp_r137 : qp_rt 137 = some .int ∧ qp_mL 137 = 1 := by decide +kernel
theorem qp_f138 : qp_fv 138 1 13 1 := by unfold qp_fv; decide +kernel
theorem qp_ok138 : qp_ok (qp_o 138) (qp_b 138) qp_k138 := qp_ok_of qp_h138
theorem qp_r138 : qp_rt 138 = some .int ∧ qp_mL 138 = 3 := by decide +kernel
theorem qp_f139 : qp_fv 139 3 13 1 := by unfold qp_fv; decide +kernel
theorem qp_ok139 : qp_ok (qp_o 139) (qp_b 139) qp_k139 := qp_ok_of qp_h139
theorem qp_r139 : qp_rt 139 = some .int ∧ qp_mL 139 = 3 := by decide +kernel
theorem qp_f140 : qp_fv 140 2 0 0 := by unfold qp_fv; decide +kernel
theorem qp_ok140 : qp_ok (qp_o 140) (qp_b 140) qp_k140 := qp_ok_of qp_h140
theorem qp_r140 : qp_rt 140 = some .int ∧ qp_mL 140 = 3 := by decide +kernel
/-- the end of a method: what it answers, and the ints and longs then -/
def qp_R8E (c q : Nat) (v : Option Value) (I : Nat → Nat → Int32) (J : Nat → Nat → Int64) : Option Value → qp_M → Prop := fun r M => r = v ∧ M = qp_mkE c q I J
abbrev qp_R8 (v : Option Value) (I : Nat → Nat → Int32) (J : Nat → Nat → Int64) : Option Value → qp_M → Prop := qp_R8E 36 2984 v I J
section QPM
variable {l : Launch} {G : qp_G} {d mi cc qq : Nat} {I0 : Nat → Nat → Int32} {J0 : Nat → Nat → Int64} {Q : Option Value → qp_M → Prop} {K : List (List (Nat × Instr × Int32 × Nat))}
theorem qp_cV (hK : qp_ok (qp_o mi) (qp_b mi) K) {pc d' mj ix t b na oj : Nat} {v : Int32} {L : List (Option Value)} {st rest av : List Value} {I I' : Nat → Nat → Int32} {J J' : Nat → Nat → Int64} {rv : Option Value}
    (hj : qp_fv mj na oj 0) (hf : qp_ft8 K pc = some (.invokevirtual ix, v, t)) (hmi : (Nat.beq t (10 * mj) || Nat.beq t (10 * mj + 3)) = true) (hM : qp_Met l G d' mj (.ref b :: av) (qp_mkE cc qq I J) 0 0 (qp_R8E cc qq rv I' J')) (hal : qp_len av = na) (hst : st = av.reverse ++ .ref b :: rest) (hb8 : (Nat.blt b cc && (Nat.beq (qp_S0 b).1 oj && Nat.blt oj 10)) = true) (hcat : Nat.ble (qp_cat rest) 8 = true) (hd : d' + 1 ≤ d)
    (k : qp_E l G d mi (qp_mkE cc qq I0 J0) 0 0 Q (pc + 3, L, rv.toList ++ rest, qp_mkE cc qq I' J')) : qp_E l G d mi (qp_mkE cc qq I0 J0) 0 0 Q (pc, L, st, qp_mkE cc qq I J) := by
  obtain ⟨j1, j2, j3, j4⟩ := hj
  obtain ⟨b1, b2⟩ := qp_and hb8
  obtain ⟨b3, b4⟩ := qp_and b2
  refine qp_callV_E hK hf ?_ j1 ⟨by unfold qp_sta; rw [j4]; rfl, by unfold qp_ini; rw [j4]; rfl⟩ (by rw [j2, ← hal, qp_len_eq]) (by rw [j3]; exact qp_blt b4) hM hst (by rw [j3, b3, Bool.and_true]; exact b1) hcat ⟨hd, by show cc - cc + 0 ≤ 0; omega, by show qq - qq + 0 ≤ 0; omega⟩ (Or.inl rfl) (fun r M' h1 _ _ => ?_)
  · rcases (Bool.or_eq_true _ _).mp hmi with q | q
    · exact Or.inl (Nat.eq_of_beq_eq_true q)
    · exact Or.inr (Nat.eq_of_beq_eq_true q)
  · obtain ⟨rfl, rfl⟩ := h1
    exact k
theorem qp_cS (hK : qp_ok (qp_o mi) (qp_b mi) K) {pc d' mj ix t na oj : Nat} {v : Int32} {L : List (Option Value)} {st rest av : List Value} {I I' : Nat → Nat → Int32} {J J' : Nat → Nat → Int64} {rv : Option Value}
    (hj : qp_fv mj na oj 1) (hf : qp_ft8 K pc = some (.invokestatic ix, v, t)) (hmi : (Nat.beq t (10 * mj + 1) || Nat.beq t (10 * mj + 7)) = true) (hM : qp_Met l G d' mj av (qp_mkE cc qq I J) 0 0 (qp_R8E cc qq rv I' J')) (hal : qp_len av = na) (hst : st = av.reverse ++ rest) (hcat : Nat.ble (qp_cat rest) 8 = true) (hd : d' + 1 ≤ d)
    (k : qp_E l G d mi (qp_mkE cc qq I0 J0) 0 0 Q (pc + 3, L, rv.toList ++ rest, qp_mkE cc qq I' J')) : qp_E l G d mi (qp_mkE cc qq I0 J0) 0 0 Q (pc, L, st, qp_mkE cc qq I J) := by
  obtain ⟨j1, j2, j3, j4⟩ := hj
  refine qp_callS_E hK hf ((Bool.or_eq_true _ _).mp hmi |>.imp Nat.eq_of_beq_eq_true Nat.eq_of_beq_eq_true) j1 (by unfold qp_sta; rw [j4]; rfl) (by rw [j2, ← hal, qp_len_eq]) hM hst hcat ⟨hd, by show cc - cc + 0 ≤ 0; omega, by show qq - qq + 0 ≤ 0; omega⟩ (Or.inl rfl) (fun r M' h1 _ _ => ?_)
  obtain ⟨rfl, rfl⟩ := h1
  exact k
/-- a loop that counts up to N, from behind -/
theorem qp_loopN {P : Nat → Prop} (N : Nat) (hx : P N) (hs : ∀ j, j < N → P (j + 1) → P j) : ∀ j, j ≤ N → P j := by
  intro j hj
  induction h : N - j generalizing j with
  | zero =>
    have : j = N := by omega
    subst this
    exact hx
  | succ n ih => exact hs j (by omega) (ih (j + 1) (by omega) (by omega))
end QPM
theorem qp_in_of {r : Int32} {n : Nat} (hn : n < 2 ^ 31) (h1 : ¬ r < 0) (h2 : ¬ Int32.ofNat n ≤ r) : vp_in r n := by
  rw [vp_in_iff]
  rw [Int32.lt_iff_toInt_lt] at h1
  rw [Int32.le_iff_toInt_le] at h2
  have e : (Int32.ofNat n).toInt = (n : Int) := nI_toInt hn
  rw [e] at h2
  have e0 : (0 : Int32).toInt = 0 := rfl
  rw [e0] at h1
  omega

/-! WHAT IS HELD OF THE TABLES, decided once: each instruction is what the bytes say; each entry of a pool is a word of the Statement's tables -/
def qp_il : Instr → Nat → Nat
  | .tableswitch .., t => t
  | .iload _, _ => 2
  | .lload _, _ => 2
  | .aload _, _ => 2
  | .istore _, _ => 2
  | .lstore _, _ => 2
  | .astore _, _ => 2
  | .bipush _, _ => 2
  | .ldc _, _ => 2
  | .newarray _, _ => 2
  | .sipush _, _ => 3
  | .ldc_w _, _ => 3
  | .ldc2_w _, _ => 3
  | .iinc .., _ => 3
  | .ifCond .., _ => 3
  | .if_icmp .., _ => 3
  | .goto _, _ => 3
  | .getfield _, _ => 3
  | .putfield _, _ => 3
  | .getstatic _, _ => 3
  | .invokevirtual _, _ => 3
  | .invokespecial _, _ => 3
  | .invokestatic _, _ => 3
  | .new _, _ => 3
  | _, _ => 1
def qp_opd (o : Nat) (pc : Nat) (i : Instr) (v : Int32) (t : Nat) : Bool := match i with
  | .iconst n => decide (Int32.ofInt n = v)
  | .bipush n => decide ((Int8.ofInt n).toInt32 = v)
  | .sipush n => decide ((Int16.ofInt n).toInt32 = v)
  | .iinc _ n => decide (Int32.ofInt n = v)
  | .ifCond _ f => decide ((pc : Int) + f = (t : Int))
  | .if_icmp _ f => decide ((pc : Int) + f = (t : Int))
  | .goto f => decide ((pc : Int) + f = (t : Int))
  | .tableswitch df lo hi offs => decide (0 ≤ (pc : Int) + df) && offs.all (fun f => decide (0 ≤ (pc : Int) + f)) && decide ((hi - lo).toNat < offs.size)
  | .ldc x => decide (qp_lk (qp_kR o) x = some v)
  | .ldc_w x => decide (qp_lk (qp_kR o) x = some v)
  | .getfield x => decide (qp_lk (qp_fR o) x = some t)
  | .putfield x => decide (qp_lk (qp_fR o) x = some t)
  | .getstatic x => decide (qp_lk (qp_gR o) x = some t)
  | .invokevirtual x => decide (qp_lk (qp_iR o) x = some t)
  | .invokespecial x => decide (qp_lk (qp_iR o) x = some t)
  | .invokestatic x => decide (qp_lk (qp_iR o) x = some t)
  | .new x => decide (qp_lk (qp_nR o) x = some t)
  | _ => true
def qp_ent (o : Nat) (bs : ByteArray) (q : Nat × Instr × Int32 × Nat) : Bool := decide (decode bs q.1 = .ok (q.2.1, qp_il q.2.1 q.2.2.2)) && qp_opd o q.1 q.2.1 q.2.2.1 q.2.2.2
def qp_all (o : Nat) (bs : ByteArray) (K : List (List (Nat × Instr × Int32 × Nat))) : Bool := K.all (fun b => b.all (qp_ent o bs))
/-- a code table that is right -/
def qp_ok (o : Nat) (bs : ByteArray) (K : List (List (Nat × Instr × Int32 × Nat))) : Prop := ∀ pc e, qp_ft8 K pc = some e → decode bs pc = .ok (e.1, qp_il e.1 e.2.2) ∧ qp_opd o pc e.1 e.2.1 e.2.2 = true
theorem qp_nth_mem {α : Type} {x : α} : ∀ {l : List α} {n : Nat}, qp_nth l n = some x → x ∈ l
  | [], _, h => by simp [qp_nth] at h
  | a :: t, 0, h => by simp only [qp_nth, Option.some.injEq] at h; subst h; exact List.mem_cons_self
  | a :: t, n + 1, h => List.mem_cons_of_mem _ (qp_nth_mem (l := t) (n := n) (by simpa [qp_nth] using h))
theorem qp_lk_mem {α : Type} {x : α} {i : Nat} : ∀ {l : List (Nat × α)}, qp_lk l i = some x → (i, x) ∈ l
  | [], h => by simp [qp_lk] at h
  | q :: t, h => by
    unfold qp_lk at h
    cases hb : Nat.beq q.1 i with
    | true =>
      rw [hb] at h
      have h1 : q.1 = i := Nat.eq_of_beq_eq_true hb
      have h2 : q.2 = x := by simpa using h
      subst h1; subst h2
      exact List.mem_cons_self
    | false =>
      rw [hb] at h
      exact List.mem_cons_of_mem _ (qp_lk_mem (l := t) (by simpa using h))
theorem qp_ok_of {o : Nat} {bs : ByteArray} {K : List (List (Nat × Instr × Int32 × Nat))} (h : qp_all o bs K = true) : qp_ok o bs K := by
  intro pc e he
  unfold qp_ft8 at he
  cases hb : qp_nth K (pc / 16) with
  | none => rw [hb] at he; cases he
  | some b =>
    rw [hb] at he
    have h1 := List.all_eq_true.mp (List.all_eq_true.mp h b (qp_nth_mem hb)) _ (qp_lk_mem he)
    unfold qp_ent at h1
    simp only [Bool.and_eq_true, decide_eq_true_eq] at h1
    exact h1
theorem qp_h0 : qp_all 0 prog_1_method_1_code qp_k0 = true := by decide +kernel
theorem qp_h1 : qp_all 1 prog_11_method_1_code qp_k1 = true := by decide +kernel
theorem qp_h2 : qp_all 12 prog_15_method_65_code qp_k2 = true := by decide +kernel
theorem qp_h3 : qp_all 2 prog_8_method_1_code qp_k3 = true := by decide +kernel
theorem qp_h4 : qp_all 3 prog_3_method_1_code qp_k4 = true := by decide +kernel
theorem qp_h5 : qp_all 4 prog_4_method_1_code qp_k5 = true := by decide +kernel
theorem qp_h6 : qp_all 5 prog_10_method_1_code qp_k6 = true := by decide +kernel
theorem qp_h7 : qp_all 6 prog_9_method_1_code qp_k7 = true := by decide +kernel
theorem qp_h8 : qp_all 7 prog_7_method_1_code qp_k8 = true := by decide +kernel
theorem qp_h9 : qp_all 8 prog_5_method_1_code qp_k9 = true := by decide +kernel
theorem qp_h10 : qp_all 9 prog_2_method_1_code qp_k10 = true := by decide +kernel
theorem qp_h11 : qp_all 0 prog_1_method_2_code qp_k11 = true := by decide +kernel
theorem qp_h12 : qp_all 0 prog_1_method_46_code qp_k12 = true := by decide +kernel
theorem qp_h13 : qp_all 1 prog_11_method_2_code qp_k13 = true := by decide +kernel
theorem qp_h14 : qp_all 0 prog_1_method_43_code qp_k14 = true := by decide +kernel
theorem qp_h15 : qp_all 1 prog_11_method_9_code qp_k15 = true := by decide +kernel
theorem qp_h16 : qp_all 1 prog_11_method_8_code qp_k16 = true := by decide +kernel
theorem qp_h17 : qp_all 1 prog_11_method_5_code qp_k17 = true := by decide +kernel
theorem qp_h18 : qp_all 0 prog_1_method_3_code qp_k18 = true := by decide +kernel
theorem qp_h19 : qp_all 0 prog_1_method_45_code qp_k19 = true := by decide +kernel
theorem qp_h20 : qp_all 0 prog_1_method_44_code qp_k20 = true := by decide +kernel
theorem qp_h21 : qp_all 1 prog_11_method_4_code qp_k21 = true := by decide +kernel
theorem qp_h22 : qp_all 1 prog_11_method_3_code qp_k22 = true := by decide +kernel
theorem qp_h23 : qp_all 1 prog_11_method_7_code qp_k23 = true := by decide +kernel
theorem qp_h24 : qp_all 0 prog_1_method_47_code qp_k24 = true := by decide +kernel
theorem qp_h25 : qp_all 0 prog_1_method_4_code qp_k25 = true := by decide +kernel
theorem qp_h26 : qp_all 0 prog_1_method_11_code qp_k26 = true := by decide +kernel
theorem qp_h27 : qp_all 2 prog_8_method_2_code qp_k27 = true := by decide +kernel
theorem qp_h28 : qp_all 3 prog_3_method_3_code qp_k28 = true := by decide +kernel
theorem qp_h29 : qp_all 2 prog_8_method_3_code qp_k29 = true := by decide +kernel
theorem qp_h30 : qp_all 2 prog_8_method_4_code qp_k30 = true := by decide +kernel
theorem qp_h31 : qp_all 2 prog_8_method_6_code qp_k31 = true := by decide +kernel
theorem qp_h32 : qp_all 2 prog_8_method_5_code qp_k32 = true := by decide +kernel
theorem qp_h33 : qp_all 2 prog_8_method_7_code qp_k33 = true := by decide +kernel
theorem qp_h34 : qp_all 3 prog_3_method_4_code qp_k34 = true := by decide +kernel
theorem qp_h35 : qp_all 3 prog_3_method_5_code qp_k35 = true := by decide +kernel
theorem qp_h36 : qp_all 3 prog_3_method_6_code qp_k36 = true := by decide +kernel
theorem qp_h37 : qp_all 3 prog_3_method_7_code qp_k37 = true := by decide +kernel
theorem qp_h38 : qp_all 4 prog_4_method_2_code qp_k38 = true := by decide +kernel
theorem qp_h39 : qp_all 10 prog_6_method_2_code qp_k39 = true := by decide +kernel
theorem qp_h40 : qp_all 10 prog_6_method_3_code qp_k40 = true := by decide +kernel
theorem qp_h41 : qp_all 1 prog_11_method_10_code qp_k41 = true := by decide +kernel
theorem qp_h42 : qp_all 0 prog_1_method_14_code qp_k42 = true := by decide +kernel
theorem qp_h43 : qp_all 3 prog_3_method_2_code qp_k43 = true := by decide +kernel
theorem qp_h44 : qp_all 4 prog_4_method_11_code qp_k44 = true := by decide +kernel
theorem qp_h45 : qp_all 4 prog_4_method_4_code qp_k45 = true := by decide +kernel
theorem qp_h46 : qp_all 10 prog_6_method_5_code qp_k46 = true := by decide +kernel
theorem qp_h47 : qp_all 10 prog_6_method_4_code qp_k47 = true := by decide +kernel
theorem qp_h48 : qp_all 4 prog_4_method_12_code qp_k48 = true := by decide +kernel
theorem qp_h49 : qp_all 4 prog_4_method_13_code qp_k49 = true := by decide +kernel
theorem qp_h50 : qp_all 10 prog_6_method_6_code qp_k50 = true := by decide +kernel
theorem qp_h51 : qp_all 10 prog_6_method_7_code qp_k51 = true := by decide +kernel
theorem qp_h52 : qp_all 10 prog_6_method_8_code qp_k52 = true := by decide +kernel
theorem qp_h53 : qp_all 4 prog_4_method_14_code qp_k53 = true := by decide +kernel
theorem qp_h54 : qp_all 0 prog_1_method_15_code qp_k54 = true := by decide +kernel
theorem qp_h55 : qp_all 4 prog_4_method_8_code qp_k55 = true := by decide +kernel
theorem qp_h56 : qp_all 0 prog_1_method_16_code qp_k56 = true := by decide +kernel
theorem qp_h57 : qp_all 0 prog_1_method_17_code qp_k57 = true := by decide +kernel
theorem qp_h58 : qp_all 4 prog_4_method_15_code qp_k58 = true := by decide +kernel
theorem qp_h59 : qp_all 0 prog_1_method_18_code qp_k59 = true := by decide +kernel
theorem qp_h60 : qp_all 4 prog_4_method_10_code qp_k60 = true := by decide +kernel
theorem qp_h61 : qp_all 0 prog_1_method_19_code qp_k61 = true := by decide +kernel
theorem qp_h62 : qp_all 0 prog_1_method_20_code qp_k62 = true := by decide +kernel
theorem qp_h63 : qp_all 0 prog_1_method_22_code qp_k63 = true := by decide +kernel
theorem qp_h64 : qp_all 3 prog_3_method_10_code qp_k64 = true := by decide +kernel
theorem qp_h65 : qp_all 0 prog_1_method_23_code qp_k65 = true := by decide +kernel
theorem qp_h66 : qp_all 4 prog_4_method_5_code qp_k66 = true := by decide +kernel
theorem qp_h67 : qp_all 4 prog_4_method_3_code qp_k67 = true := by decide +kernel
theorem qp_h68 : qp_all 5 prog_10_method_2_code qp_k68 = true := by decide +kernel
theorem qp_h69 : qp_all 3 prog_3_method_8_code qp_k69 = true := by decide +kernel
theorem qp_h70 : qp_all 5 prog_10_method_3_code qp_k70 = true := by decide +kernel
theorem qp_h71 : qp_all 12 prog_15_method_69_code qp_k71 = true := by decide +kernel
theorem qp_h72 : qp_all 5 prog_10_method_5_code qp_k72 = true := by decide +kernel
theorem qp_h73 : qp_all 0 prog_1_method_24_code qp_k73 = true := by decide +kernel
theorem qp_h74 : qp_all 0 prog_1_method_25_code qp_k74 = true := by decide +kernel
theorem qp_h75 : qp_all 0 prog_1_method_26_code qp_k75 = true := by decide +kernel
theorem qp_h76 : qp_all 6 prog_9_method_2_code qp_k76 = true := by decide +kernel
theorem qp_h77 : qp_all 6 prog_9_method_6_code qp_k77 = true := by decide +kernel
theorem qp_h78 : qp_all 10 prog_6_method_10_code qp_k78 = true := by decide +kernel
theorem qp_h79 : qp_all 11 prog_14_method_49_code qp_k79 = true := by decide +kernel
theorem qp_h80 : qp_all 6 prog_9_method_4_code qp_k80 = true := by decide +kernel
theorem qp_h81 : qp_all 10 prog_6_method_9_code qp_k81 = true := by decide +kernel
theorem qp_h82 : qp_all 12 prog_15_method_59_code qp_k82 = true := by decide +kernel
theorem qp_h83 : qp_all 5 prog_10_method_4_code qp_k83 = true := by decide +kernel
theorem qp_h84 : qp_all 6 prog_9_method_5_code qp_k84 = true := by decide +kernel
theorem qp_h85 : qp_all 6 prog_9_method_3_code qp_k85 = true := by decide +kernel
theorem qp_h86 : qp_all 0 prog_1_method_27_code qp_k86 = true := by decide +kernel
theorem qp_h87 : qp_all 0 prog_1_method_52_code qp_k87 = true := by decide +kernel
theorem qp_h88 : qp_all 0 prog_1_method_53_code qp_k88 = true := by decide +kernel
theorem qp_h89 : qp_all 7 prog_7_method_2_code qp_k89 = true := by decide +kernel
theorem qp_h90 : qp_all 7 prog_7_method_3_code qp_k90 = true := by decide +kernel
theorem qp_h91 : qp_all 7 prog_7_method_4_code qp_k91 = true := by decide +kernel
theorem qp_h92 : qp_all 7 prog_7_method_5_code qp_k92 = true := by decide +kernel
theorem qp_h93 : qp_all 0 prog_1_method_48_code qp_k93 = true := by decide +kernel
theorem qp_h94 : qp_all 0 prog_1_method_49_code qp_k94 = true := by decide +kernel
theorem qp_h95 : qp_all 0 prog_1_method_28_code qp_k95 = true := by decide +kernel
theorem qp_h96 : qp_all 7 prog_7_method_6_code qp_k96 = true := by decide +kernel
theorem qp_h97 : qp_all 0 prog_1_method_29_code qp_k97 = true := by decide +kernel
theorem qp_h98 : qp_all 7 prog_7_method_7_code qp_k98 = true := by decide +kernel
theorem qp_h99 : qp_all 0 prog_1_method_30_code qp_k99 = true := by decide +kernel
theorem qp_h100 : qp_all 5 prog_10_method_10_code qp_k100 = true := by decide +kernel
theorem qp_h101 : qp_all 0 prog_1_method_31_code qp_k101 = true := by decide +kernel
theorem qp_h102 : qp_all 0 prog_1_method_32_code qp_k102 = true := by decide +kernel
theorem qp_h103 : qp_all 8 prog_5_method_2_code qp_k103 = true := by decide +kernel
theorem qp_h104 : qp_all 8 prog_5_method_3_code qp_k104 = true := by decide +kernel
theorem qp_h105 : qp_all 8 prog_5_method_4_code qp_k105 = true := by decide +kernel
theorem qp_h106 : qp_all 0 prog_1_method_33_code qp_k106 = true := by decide +kernel
theorem qp_h107 : qp_all 9 prog_2_method_3_code qp_k107 = true := by decide +kernel
theorem qp_h108 : qp_all 9 prog_2_method_5_code qp_k108 = true := by decide +kernel
theorem qp_h109 : qp_all 9 prog_2_method_6_code qp_k109 = true := by decide +kernel
theorem qp_h110 : qp_all 9 prog_2_method_7_code qp_k110 = true := by decide +kernel
theorem qp_h111 : qp_all 9 prog_2_method_2_code qp_k111 = true := by decide +kernel
theorem qp_h112 : qp_all 0 prog_1_method_34_code qp_k112 = true := by decide +kernel
theorem qp_h113 : qp_all 9 prog_2_method_4_code qp_k113 = true := by decide +kernel
theorem qp_h114 : qp_all 5 prog_10_method_8_code qp_k114 = true := by decide +kernel
theorem qp_h115 : qp_all 0 prog_1_method_35_code qp_k115 = true := by decide +kernel
theorem qp_h116 : qp_all 4 prog_4_method_16_code qp_k116 = true := by decide +kernel
theorem qp_h117 : qp_all 5 prog_10_method_9_code qp_k117 = true := by decide +kernel
theorem qp_h118 : qp_all 0 prog_1_method_36_code qp_k118 = true := by decide +kernel
theorem qp_h119 : qp_all 0 prog_1_method_37_code qp_k119 = true := by decide +kernel
theorem qp_h120 : qp_all 0 prog_1_method_38_code qp_k120 = true := by decide +kernel
theorem qp_h121 : qp_all 0 prog_1_method_39_code qp_k121 = true := by decide +kernel
theorem qp_h122 : qp_all 0 prog_1_method_51_code qp_k122 = true := by decide +kernel
theorem qp_h123 : qp_all 3 prog_3_method_9_code qp_k123 = true := by decide +kernel
theorem qp_h124 : qp_all 1 prog_11_method_13_code qp_k124 = true := by decide +kernel
theorem qp_h125 : qp_all 0 prog_1_method_42_code qp_k125 = true := by decide +kernel
theorem qp_h126 : qp_all 0 prog_1_method_50_code qp_k126 = true := by decide +kernel
theorem qp_h127 : qp_all 5 prog_10_method_6_code qp_k127 = true := by decide +kernel
theorem qp_h128 : qp_all 4 prog_4_method_7_code qp_k128 = true := by decide +kernel
theorem qp_h129 : qp_all 4 prog_4_method_9_code qp_k129 = true := by decide +kernel
theorem qp_h130 : qp_all 1 prog_11_method_14_code qp_k130 = true := by decide +kernel
theorem qp_h131 : qp_all 13 method_2_code qp_k131 = true := by decide +kernel
theorem qp_h132 : qp_all 13 method_3_code qp_k132 = true := by decide +kernel
theorem qp_h133 : qp_all 13 method_4_code qp_k133 = true := by decide +kernel
theorem qp_h134 : qp_all 13 method_6_code qp_k134 = true := by decide +kernel
theorem qp_h135 : qp_all 0 prog_1_method_8_code qp_k135 = true := by decide +kernel
theorem qp_h136 : qp_all 0 prog_1_method_9_code qp_k136 = true := by decide +kernel
theorem qp_h137 : qp_all 13 method_5_code qp_k137 = true := by decide +kernel
theorem qp_h138 : qp_all 13 method_8_code qp_k138 = true := by decide +kernel
theorem qp_h139 : qp_all 13 method_9_code qp_k139 = true := by decide +kernel
theorem qp_h140 : qp_all 0 prog_1_method_12_code qp_k140 = true := by decide +kernel

/-! THE PROGRAM AS A FUNCTION: a memory of numbered cells, and what one instruction makes of a frame (pc, locals, stack, memory) -/
/-- ints, longs, references by (cell, place); of a cell its kind (a class, 50 int[], 51 boolean[]) and its length; how many cells; how many slots -/
abbrev qp_M : Type := (Nat → Nat → Int32) × (Nat → Nat → Int64) × (Nat → Nat → Option Nat) × (Nat → Nat × Nat) × Nat × Nat
abbrev qp_C : Type := Nat × List (Option Value) × List Value × qp_M
def qp_up {α : Type} (f : Nat → Nat → α) (k j : Nat) (v : α) : Nat → Nat → α := fun k' j' => bif Nat.beq k k' && Nat.beq j j' then v else f k' j'
def qp_up1 {α : Type} (f : Nat → α) (k : Nat) (v : α) : Nat → α := fun k' => bif Nat.beq k k' then v else f k'
/-- a field's value -/
def qp_get (M : qp_M) (ci r k : Nat) : Value := match qp_ft ci k with
  | 0 => .int (M.1 r k)
  | 1 => .long (M.2.1 r k)
  | _ => va_rf (M.2.2.1 r k)
def qp_put (M : qp_M) (ci r k : Nat) (v : Value) : Option qp_M := match qp_ft ci k, v with
  | 0, .int x => some (qp_up M.1 r k x, M.2)
  | 1, .long x => some (M.1, qp_up M.2.1 r k x, M.2.2)
  | 2, .ref q => some (M.1, M.2.1, qp_up M.2.2.1 r k (some q), M.2.2.2)
  | _, _ => none
def qp_setN {α : Type} : List α → Nat → α → List α
  | [], _, _ => []
  | _ :: t, 0, v => v :: t
  | a :: t, n + 1, v => a :: qp_setN t n v
def qp_len {α : Type} : List α → Nat
  | [] => 0
  | _ :: t => Nat.succ (qp_len t)
/-- the locals behind a store: a long that is cut in two is gone -/
def qp_cut (L : List (Option Value)) : Nat → List (Option Value)
  | 0 => L
  | k + 1 => match qp_nth L k with
    | some (some (.long _)) => qp_setN L k none
    | some (some (.double _)) => qp_setN L k none
    | _ => L
def qp_sto (L : List (Option Value)) (j : Nat) (v : Value) : List (Option Value) := qp_setN (qp_cut L j) j (some v)
def qp_stoL (L : List (Option Value)) (j : Nat) (v : Value) : List (Option Value) := qp_setN (qp_setN (qp_cut L j) j (some v)) (j + 1) none
abbrev qp_S : Type := Option (Option Prop × qp_C)
def qp_ldI (j n : Nat) (c : qp_C) : qp_S := match qp_nth c.2.1 j with
  | some (some (.int x)) => some (none, c.1 + n, c.2.1, .int x :: c.2.2.1, c.2.2.2)
  | _ => none
def qp_ldL (j n : Nat) (c : qp_C) : qp_S := match qp_nth c.2.1 j with
  | some (some (.long x)) => some (none, c.1 + n, c.2.1, .long x :: c.2.2.1, c.2.2.2)
  | _ => none
def qp_ldR (j n : Nat) (c : qp_C) : qp_S := match qp_nth c.2.1 j with
  | some (some (.ref x)) => some (none, c.1 + n, c.2.1, .ref x :: c.2.2.1, c.2.2.2)
  | _ => none
def qp_stI (j n : Nat) (c : qp_C) : qp_S := match c.2.2.1 with
  | .int x :: st => bif Nat.blt j (qp_len c.2.1) then some (none, c.1 + n, qp_sto c.2.1 j (.int x), st, c.2.2.2) else none
  | _ => none
def qp_stL (j n : Nat) (c : qp_C) : qp_S := match c.2.2.1 with
  | .long x :: st => bif Nat.blt (j + 1) (qp_len c.2.1) then some (none, c.1 + n, qp_stoL c.2.1 j (.long x), st, c.2.2.2) else none
  | _ => none
def qp_stR (j n : Nat) (c : qp_C) : qp_S := match c.2.2.1 with
  | .ref x :: st => bif Nat.blt j (qp_len c.2.1) then some (none, c.1 + n, qp_sto c.2.1 j (.ref x), st, c.2.2.2) else none
  | _ => none
def qp_two (f : Int32 → Int32 → Int32) (p : Int32 → Int32 → Option Prop) (c : qp_C) : qp_S := match c.2.2.1 with
  | .int y :: .int x :: st => some (p x y, c.1 + 1, c.2.1, .int (f x y) :: st, c.2.2.2)
  | _ => none
def qp_twoL (f : Int64 → Int64 → Int64) (p : Int64 → Int64 → Option Prop) (c : qp_C) : qp_S := match c.2.2.1 with
  | .long y :: .long x :: st => some (p x y, c.1 + 1, c.2.1, .long (f x y) :: st, c.2.2.2)
  | _ => none
def qp_psh (v : Value) (n : Nat) (c : qp_C) : qp_S := some (none, c.1 + n, c.2.1, v :: c.2.2.1, c.2.2.2)
/-- the letters (a static array) stand as cell 1000 -/
def qp_let (j : Nat) : Int32 := match j with
  | 0 => 112
  | 1 => 115
  | 2 => 99
  | 3 => 117
  | 4 => 103
  | _ => 111
def qp_aldI (c : qp_C) : qp_S := match c.2.2.1 with
  | .int i :: .ref r :: st => bif Nat.beq r 1000 then some (some (vp_in i 6), c.1 + 1, c.2.1, .int (qp_let i.toNatClampNeg) :: st, c.2.2.2)
      else bif Nat.blt r c.2.2.2.2.2.2.2.1 && Nat.beq (c.2.2.2.2.2.2.1 r).1 50 then some (some (vp_in i (c.2.2.2.2.2.2.1 r).2), c.1 + 1, c.2.1, .int (c.2.2.2.1 r i.toNatClampNeg) :: st, c.2.2.2) else none
  | _ => none
def qp_aldB (c : qp_C) : qp_S := match c.2.2.1 with
  | .int i :: .ref r :: st => bif Nat.blt r c.2.2.2.2.2.2.2.1 && Nat.beq (c.2.2.2.2.2.2.1 r).1 51 then some (some (vp_in i (c.2.2.2.2.2.2.1 r).2), c.1 + 1, c.2.1, .int (c.2.2.2.1 r i.toNatClampNeg) :: st, c.2.2.2) else none
  | _ => none
def qp_astI (c : qp_C) : qp_S := match c.2.2.1 with
  | .int x :: .int i :: .ref r :: st => bif Nat.blt r c.2.2.2.2.2.2.2.1 && Nat.beq (c.2.2.2.2.2.2.1 r).1 50 then some (some (vp_in i (c.2.2.2.2.2.2.1 r).2), c.1 + 1, c.2.1, st, (qp_up c.2.2.2.1 r i.toNatClampNeg x, c.2.2.2.2)) else none
  | _ => none
def qp_astB (c : qp_C) : qp_S := match c.2.2.1 with
  | .int x :: .int i :: .ref r :: st => bif Nat.blt r c.2.2.2.2.2.2.2.1 && Nat.beq (c.2.2.2.2.2.2.1 r).1 51 then some (some (vp_in i (c.2.2.2.2.2.2.1 r).2 ∧ vp_nar .boolean x = x), c.1 + 1, c.2.1, st, (qp_up c.2.2.2.1 r i.toNatClampNeg x, c.2.2.2.2)) else none
  | _ => none
def qp_aln (c : qp_C) : qp_S := match c.2.2.1 with
  | .ref r :: st => bif Nat.beq r 1000 then some (none, c.1 + 1, c.2.1, .int 6 :: st, c.2.2.2)
      else bif Nat.blt r c.2.2.2.2.2.2.2.1 && Nat.ble 50 (c.2.2.2.2.2.2.1 r).1 then some (none, c.1 + 1, c.2.1, .int (Int32.ofNat (c.2.2.2.2.2.2.1 r).2) :: st, c.2.2.2) else none
  | _ => none
def qp_gtf (t : Nat) (c : qp_C) : qp_S := match c.2.2.1 with
  | .ref r :: st => bif Nat.blt r c.2.2.2.2.2.2.2.1 && (Nat.beq (c.2.2.2.2.2.2.1 r).1 (t / 100) && Nat.blt (t % 100) (c.2.2.2.2.2.2.1 r).2) then some (none, c.1 + 3, c.2.1, qp_get c.2.2.2 (t / 100) r (t % 100) :: st, c.2.2.2) else none
  | _ => none
def qp_ptf (o : Nat) (ini : Bool) (t : Nat) (c : qp_C) : qp_S := match c.2.2.1 with
  | v :: .ref r :: st => bif Nat.blt r c.2.2.2.2.2.2.2.1 && (Nat.beq (c.2.2.2.2.2.2.1 r).1 (t / 100) && (Nat.blt (t % 100) (c.2.2.2.2.2.2.1 r).2 && ((ini && Nat.beq (t / 100) o) || !qp_fin (t / 100) (t % 100)))) then (match qp_put c.2.2.2 (t / 100) r (t % 100) v with
      | some M => some (none, c.1 + 3, c.2.1, st, M)
      | none => none) else none
  | _ => none
/-- a new cell: its kind and length; the room that it must fit in -/
def qp_mk1 (M : qp_M) (tag n : Nat) : qp_M := (fun k j => bif Nat.beq M.2.2.2.2.1 k then 0 else M.1 k j, fun k j => bif Nat.beq M.2.2.2.2.1 k then 0 else M.2.1 k j, fun k j => bif Nat.beq M.2.2.2.2.1 k then none else M.2.2.1 k j, qp_up1 M.2.2.2.1 M.2.2.2.2.1 (tag, n), M.2.2.2.2.1 + 1, M.2.2.2.2.2 + n)
def qp_fit (lim : Nat × Nat) (M : qp_M) : Bool := Nat.ble M.2.2.2.2.1 lim.1 && Nat.ble M.2.2.2.2.2 lim.2 && Nat.ble M.2.2.2.2.1 900
/-- a reference that is one: of a cell that is there, or of what was there before (1000, the letters, and on) -/
def qp_kn (n : Nat) : Value → Bool
  | .ref r => Nat.blt r n || Nat.ble 1000 r
  | _ => true
/-- no reference leads to a cell that is not there yet -/
def qp_knw (c : qp_C) : Bool := c.2.1.all (fun x => match x with | some v => qp_kn c.2.2.2.2.2.2.2.1 v | none => true) && c.2.2.1.all (qp_kn c.2.2.2.2.2.2.2.1) && (List.range c.2.2.2.2.2.2.2.1).all (fun r => bif (Nat.beq (c.2.2.2.2.2.2.1 r).1 50 || Nat.beq (c.2.2.2.2.2.2.1 r).1 51) then true else (List.range (c.2.2.2.2.2.2.1 r).2).all (fun k => qp_kn c.2.2.2.2.2.2.2.1 (qp_get c.2.2.2 (c.2.2.2.2.2.2.1 r).1 r k)))
def qp_cat : List Value → Nat
  | [] => 0
  | v :: t => v.category + qp_cat t
def qp_nw (lim : Nat × Nat) (t : Nat) (c : qp_C) : qp_S := some (some ((qp_fit lim (qp_mk1 c.2.2.2 t (qp_N t)) && qp_knw c) = true), c.1 + 3, c.2.1, .ref c.2.2.2.2.2.2.2.1 :: c.2.2.1, qp_mk1 c.2.2.2 t (qp_N t))
def qp_nwa (lim : Nat × Nat) (tag : Nat) (c : qp_C) : qp_S := match c.2.2.1 with
  | .int n :: st => some (some (¬ n < 0 ∧ n.toNatClampNeg ≤ 100000 ∧ (qp_fit lim (qp_mk1 c.2.2.2 tag n.toNatClampNeg) && qp_knw c) = true), c.1 + 2, c.2.1, .ref c.2.2.2.2.2.2.2.1 :: st, qp_mk1 c.2.2.2 tag n.toNatClampNeg)
  | _ => none
def qp_swt (df lo hi : Int) (offs : Array Int) (pc : Nat) (x : Int32) : Nat := if x.toInt < lo ∨ hi < x.toInt then ((pc : Int) + df).toNat else ((pc : Int) + offs.getD (x.toInt - lo).toNat 0).toNat
/-- a step that neither branches, calls nor returns: what must hold for it, and the frame behind it -/
def qp_step (lim : Nat × Nat) (o : Nat) (ini : Bool) (i : Instr) (v : Int32) (t : Nat) (c : qp_C) : qp_S := match i with
  | .iconst _ => qp_psh (.int v) 1 c
  | .bipush _ => qp_psh (.int v) 2 c
  | .sipush _ => qp_psh (.int v) 3 c
  | .ldc _ => qp_psh (.int v) 2 c
  | .ldc_w _ => qp_psh (.int v) 3 c
  | .lconst n => qp_psh (.long (bif Nat.beq n.val 0 then 0 else 1)) 1 c
  | .ldc2_w ix => match qp_lk (qp_lR o) ix with
    | some w => qp_psh (.long w) 3 c
    | none => none
  | .iload j => qp_ldI j 2 c
  | .iload_n j => qp_ldI j.val 1 c
  | .lload j => qp_ldL j 2 c
  | .lload_n j => qp_ldL j.val 1 c
  | .aload j => qp_ldR j 2 c
  | .aload_n j => qp_ldR j.val 1 c
  | .istore j => qp_stI j 2 c
  | .istore_n j => qp_stI j.val 1 c
  | .lstore j => qp_stL j 2 c
  | .lstore_n j => qp_stL j.val 1 c
  | .astore j => qp_stR j 2 c
  | .astore_n j => qp_stR j.val 1 c
  | .iinc j _ => match qp_nth c.2.1 j with
    | some (some (.int x)) => some (none, c.1 + 3, qp_sto c.2.1 j (.int (x + v)), c.2.2.1, c.2.2.2)
    | _ => none
  | .dup => match c.2.2.1 with
    | .int x :: st => some (none, c.1 + 1, c.2.1, .int x :: .int x :: st, c.2.2.2)
    | .ref x :: st => some (none, c.1 + 1, c.2.1, .ref x :: .ref x :: st, c.2.2.2)
    | _ => none
  | .dup2 => match c.2.2.1 with
    | .int x :: .ref y :: st => some (none, c.1 + 1, c.2.1, .int x :: .ref y :: .int x :: .ref y :: st, c.2.2.2)
    | _ => none
  | .pop => match c.2.2.1 with
    | .int _ :: st => some (none, c.1 + 1, c.2.1, st, c.2.2.2)
    | _ => none
  | .iadd => qp_two (fun x y => x + y) (fun _ _ => none) c
  | .isub => qp_two (fun x y => x - y) (fun _ _ => none) c
  | .imul => qp_two (fun x y => x * y) (fun _ _ => none) c
  | .iand => qp_two (fun x y => x &&& y) (fun _ _ => none) c
  | .ior => qp_two (fun x y => x ||| y) (fun _ _ => none) c
  | .ixor => qp_two (fun x y => x ^^^ y) (fun _ _ => none) c
  | .ishl => qp_two (fun x y => x <<< (y &&& 31)) (fun _ _ => none) c
  | .ishr => qp_two (fun x y => x >>> (y &&& 31)) (fun _ _ => none) c
  | .iushr => qp_two (fun x y => (x.toUInt32 >>> (y.toUInt32 &&& Int32.toUInt32 31)).toInt32) (fun _ _ => none) c
  | .idiv => qp_two (fun x y => x / y) (fun _ y => some (¬ y = 0)) c
  | .irem => qp_two (fun x y => x - x / y * y) (fun _ y => some (¬ y = 0)) c
  | .ineg => match c.2.2.1 with
    | .int x :: st => some (none, c.1 + 1, c.2.1, .int (-x) :: st, c.2.2.2)
    | _ => none
  | .ladd => qp_twoL (fun x y => x + y) (fun _ _ => none) c
  | .lsub => qp_twoL (fun x y => x - y) (fun _ _ => none) c
  | .lmul => qp_twoL (fun x y => x * y) (fun _ _ => none) c
  | .ldiv => qp_twoL (fun x y => x / y) (fun _ y => some (¬ y = 0)) c
  | .lrem => qp_twoL (fun x y => x - x / y * y) (fun _ y => some (¬ y = 0)) c
  | .lshl => match c.2.2.1 with
    | .int y :: .long x :: st => some (none, c.1 + 1, c.2.1, .long (x <<< (y.toInt64 &&& 63)) :: st, c.2.2.2)
    | _ => none
  | .lcmp => match c.2.2.1 with
    | .long y :: .long x :: st => some (none, c.1 + 1, c.2.1, .int (lg_cmp x y) :: st, c.2.2.2)
    | _ => none
  | .i2l => match c.2.2.1 with
    | .int x :: st => some (none, c.1 + 1, c.2.1, .long x.toInt64 :: st, c.2.2.2)
    | _ => none
  | .l2i => match c.2.2.1 with
    | .long x :: st => some (none, c.1 + 1, c.2.1, .int x.toInt32 :: st, c.2.2.2)
    | _ => none
  | .i2b => match c.2.2.1 with
    | .int x :: st => some (none, c.1 + 1, c.2.1, .int x.toInt8.toInt32 :: st, c.2.2.2)
    | _ => none
  | .goto _ => some (none, t, c.2.1, c.2.2.1, c.2.2.2)
  | .tableswitch df lo hi offs => match c.2.2.1 with
    | .int x :: st => some (none, qp_swt df lo hi offs c.1 x, c.2.1, st, c.2.2.2)
    | _ => none
  | .iaload => qp_aldI c
  | .baload => qp_aldB c
  | .iastore => qp_astI c
  | .bastore => qp_astB c
  | .arraylength => qp_aln c
  | .getfield _ => qp_gtf t c
  | .putfield _ => qp_ptf o ini t c
  | .getstatic _ => qp_psh (.ref 1000) 3 c
  | .new _ => qp_nw lim t c
  | .newarray .int => qp_nwa lim 50 c
  | .newarray .boolean => qp_nwa lim 51 c
  | .invokespecial _ => bif Nat.beq t 5 then (match c.2.2.1 with
      | .ref _ :: st => bif Nat.ble (qp_cat st) 8 then some (none, c.1 + 3, c.2.1, st, c.2.2.2) else none
      | _ => none) else none
  | _ => none
/-- so many steps, and all that must hold for them -/
def qp_run (lim : Nat × Nat) (o : Nat) (ini : Bool) (K : List (List (Nat × Instr × Int32 × Nat))) : Nat → qp_C → Option (Prop × qp_C)
  | 0, c => some (True, c)
  | n + 1, c => match qp_ft8 K c.1 with
    | some e => match qp_step lim o ini e.1 e.2.1 e.2.2 c with
      | some (none, c') => qp_run lim o ini K n c'
      | some (some p, c') => match qp_run lim o ini K n c' with
        | some (q, c'') => some (p ∧ q, c'')
        | none => none
      | none => none
    | none => none
/-- a branch: what it asks, where it goes if so, if not -/
def qp_cnd (cd : ClassFile.Cond) (x y : Int32) : Prop := match cd with
  | .eq => x = y
  | .ne => ¬ x = y
  | .lt => x < y
  | .ge => y ≤ x
  | .gt => y < x
  | .le => x ≤ y
def qp_br (K : List (List (Nat × Instr × Int32 × Nat))) (c : qp_C) : Option (Prop × qp_C × qp_C) := match qp_ft8 K c.1 with
  | some e => match e.1, c.2.2.1 with
    | .ifCond cd _, .int x :: st => some (qp_cnd cd x 0, (e.2.2, c.2.1, st, c.2.2.2), (c.1 + 3, c.2.1, st, c.2.2.2))
    | .if_icmp cd _, .int y :: .int x :: st => some (qp_cnd cd x y, (e.2.2, c.2.1, st, c.2.2.2), (c.1 + 3, c.2.1, st, c.2.2.2))
    | _, _ => none
  | none => none

/-! NUMBERS: small ints and longs as naturals -/
def qn (k : Nat) : Int32 := Int32.ofNat k
def ql (k : Nat) : Int64 := Int64.ofNat k
theorem qn_l0 : (0 : Int32) = qn 0 := rfl
theorem qn_l1 : (1 : Int32) = qn 1 := rfl
theorem qn_l2 : (2 : Int32) = qn 2 := rfl
theorem qn_l3 : (3 : Int32) = qn 3 := rfl
theorem qn_l4 : (4 : Int32) = qn 4 := rfl
theorem qn_l5 : (5 : Int32) = qn 5 := rfl
theorem qn_l6 : (6 : Int32) = qn 6 := rfl
theorem qn_l7 : (7 : Int32) = qn 7 := rfl
theorem qn_l8 : (8 : Int32) = qn 8 := rfl
theorem qn_l9 : (9 : Int32) = qn 9 := rfl
theorem qn_l10 : (10 : Int32) = qn 10 := rfl
theorem qn_l11 : (11 : Int32) = qn 11 := rfl
theorem qn_l12 : (12 : Int32) = qn 12 := rfl
theorem qn_l13 : (13 : Int32) = qn 13 := rfl
theorem qn_l14 : (14 : Int32) = qn 14 := rfl
theorem qn_l15 : (15 : Int32) = qn 15 := rfl
theorem qn_l16 : (16 : Int32) = qn 16 := rfl
theorem qn_l17 : (17 : Int32) = qn 17 := rfl
theorem qn_l18 : (18 : Int32) = qn 18 := rfl
theorem qn_l19 : (19 : Int32) = qn 19 := rfl
theorem qn_l20 : (20 : Int32) = qn 20 := rfl
theorem qn_l21 : (21 : Int32) = qn 21 := rfl
theorem qn_l22 : (22 : Int32) = qn 22 := rfl
theorem qn_l23 : (23 : Int32) = qn 23 := rfl
theorem qn_l24 : (24 : Int32) = qn 24 := rfl
theorem qn_l27 : (27 : Int32) = qn 27 := rfl
theorem qn_l28 : (28 : Int32) = qn 28 := rfl
theorem qn_l31 : (31 : Int32) = qn 31 := rfl
theorem qn_l32 : (32 : Int32) = qn 32 := rfl
theorem qn_l36 : (36 : Int32) = qn 36 := rfl
theorem qn_l37 : (37 : Int32) = qn 37 := rfl
theorem qn_l39 : (39 : Int32) = qn 39 := rfl
theorem qn_l40 : (40 : Int32) = qn 40 := rfl
theorem qn_l48 : (48 : Int32) = qn 48 := rfl
theorem qn_l49 : (49 : Int32) = qn 49 := rfl
theorem qn_l55 : (55 : Int32) = qn 55 := rfl
theorem qn_l56 : (56 : Int32) = qn 56 := rfl
theorem qn_l57 : (57 : Int32) = qn 57 := rfl
theorem qn_l60 : (60 : Int32) = qn 60 := rfl
theorem qn_l63 : (63 : Int32) = qn 63 := rfl
theorem qn_l64 : (64 : Int32) = qn 64 := rfl
theorem qn_l69 : (69 : Int32) = qn 69 := rfl
theorem qn_l70 : (70 : Int32) = qn 70 := rfl
theorem qn_l75 : (75 : Int32) = qn 75 := rfl
theorem qn_l99 : (99 : Int32) = qn 99 := rfl
theorem qn_l100 : (100 : Int32) = qn 100 := rfl
theorem qn_l103 : (103 : Int32) = qn 103 := rfl
theorem qn_l111 : (111 : Int32) = qn 111 := rfl
theorem qn_l112 : (112 : Int32) = qn 112 := rfl
theorem qn_l113 : (113 : Int32) = qn 113 := rfl
theorem qn_l115 : (115 : Int32) = qn 115 := rfl
theorem qn_l117 : (117 : Int32) = qn 117 := rfl
theorem qn_l127 : (127 : Int32) = qn 127 := rfl
theorem qn_l128 : (128 : Int32) = qn 128 := rfl
theorem qn_l200 : (200 : Int32) = qn 200 := rfl
theorem qn_l240 : (240 : Int32) = qn 240 := rfl
theorem qn_l255 : (255 : Int32) = qn 255 := rfl
theorem qn_l256 : (256 : Int32) = qn 256 := rfl
theorem qn_l300 : (300 : Int32) = qn 300 := rfl
theorem qn_l720 : (720 : Int32) = qn 720 := rfl
theorem qn_l1000 : (1000 : Int32) = qn 1000 := rfl
theorem qn_l26 : (26 : Int32) = qn 26 := rfl
theorem qn_l33 : (33 : Int32) = qn 33 := rfl
theorem qn_l34 : (34 : Int32) = qn 34 := rfl
theorem qn_l38 : (38 : Int32) = qn 38 := rfl
theorem qn_l47 : (47 : Int32) = qn 47 := rfl
theorem qn_l50 : (50 : Int32) = qn 50 := rfl
theorem qn_l51 : (51 : Int32) = qn 51 := rfl
theorem qn_l54 : (54 : Int32) = qn 54 := rfl
theorem qn_l120 : (120 : Int32) = qn 120 := rfl
theorem qn_l225 : (225 : Int32) = qn 225 := rfl
theorem qn_l48271 : (48271 : Int32) = qn 48271 := rfl
theorem qn_l1000000 : (1000000 : Int32) = qn 1000000 := rfl
theorem qn_l2147483646 : (2147483646 : Int32) = qn 2147483646 := rfl
theorem qn_l2147483647 : (2147483647 : Int32) = qn 2147483647 := rfl
theorem ql_l0 : (0 : Int64) = ql 0 := rfl
theorem ql_l1 : (1 : Int64) = ql 1 := rfl
theorem ql_l5 : (5 : Int64) = ql 5 := rfl
theorem ql_l31 : (31 : Int64) = ql 31 := rfl
theorem qn_toInt {k : Nat} (h : k < 2147483648) : (qn k).toInt = k := Int32.toInt_ofNat_of_lt h
theorem ql_toInt {k : Nat} (h : k < 9223372036854775808) : (ql k).toInt = k := Int64.toInt_ofNat_of_lt h
theorem qn_add (a b : Nat) : qn a + qn b = qn (a + b) := (Int32.ofNat_add a b).symm
theorem ql_add (a b : Nat) : ql a + ql b = ql (a + b) := (Int64.ofNat_add a b).symm
theorem qn_mul (a b : Nat) : qn a * qn b = qn (a * b) := (Int32.ofNat_mul a b).symm
theorem ql_mul (a b : Nat) : ql a * ql b = ql (a * b) := (Int64.ofNat_mul a b).symm
theorem qn_sub {a b : Nat} (h : b ≤ a) : qn a - qn b = qn (a - b) := (Int32.ofNat_sub a b h).symm
theorem ql_sub {a b : Nat} (h : b ≤ a) : ql a - ql b = ql (a - b) := (Int64.ofNat_sub a b h).symm
theorem qn_addneg {a b : Nat} (h : b ≤ a) : qn a + -qn b = qn (a - b) := by
  rw [← qn_sub h, Int32.sub_eq_add_neg]
theorem qn_div {a b : Nat} (ha : a < 2147483648) (hb : b < 2147483648) : qn a / qn b = qn (a / b) := (Int32.ofNat_div ha hb).symm
theorem ql_div {a b : Nat} (ha : a < 9223372036854775808) (hb : b < 9223372036854775808) : ql a / ql b = ql (a / b) := (Int64.ofNat_div ha hb).symm
theorem qn_modn (a b : Nat) : a - a / b * b = a % b := by
  have := Nat.div_add_mod a b
  rw [Nat.mul_comm] at this
  omega
theorem qn_mod (a b : Nat) : qn a - qn (a / b * b) = qn (a % b) := by
  rw [qn_sub (Nat.div_mul_le_self a b), qn_modn]
theorem ql_mod (a b : Nat) : ql a - ql (a / b * b) = ql (a % b) := by
  rw [ql_sub (Nat.div_mul_le_self a b), qn_modn]
theorem qn_lt {a b : Nat} (ha : a < 2147483648) (hb : b < 2147483648) : (qn a < qn b) = (a < b) := propext (Int32.ofNat_lt_iff_lt ha hb)
theorem qn_le {a b : Nat} (ha : a < 2147483648) (hb : b < 2147483648) : (qn a ≤ qn b) = (a ≤ b) := propext (Int32.ofNat_le_iff_le ha hb)
theorem ql_lt {a b : Nat} (ha : a < 9223372036854775808) (hb : b < 9223372036854775808) : (ql a < ql b) = (a < b) := propext (Int64.ofNat_lt_iff_lt ha hb)
theorem ql_le {a b : Nat} (ha : a < 9223372036854775808) (hb : b < 9223372036854775808) : (ql a ≤ ql b) = (a ≤ b) := propext (Int64.ofNat_le_iff_le ha hb)
theorem qn_nat {k : Nat} (h : k < 2147483648) : Int32.toNatClampNeg (qn k) = k := Int32.toNatClampNeg_ofNat_of_lt h
theorem ql_nat {k : Nat} (h : k < 9223372036854775808) : Int64.toNatClampNeg (ql k) = k := Int64.toNatClampNeg_ofNat_of_lt h
theorem qn_eq {a b : Nat} (ha : a < 2147483648) (hb : b < 2147483648) : (qn a = qn b) = (a = b) := by
  refine propext ⟨fun h => ?_, fun h => h ▸ rfl⟩
  have := congrArg Int32.toNatClampNeg h
  rwa [qn_nat ha, qn_nat hb] at this
theorem ql_eq {a b : Nat} (ha : a < 9223372036854775808) (hb : b < 9223372036854775808) : (ql a = ql b) = (a = b) := by
  refine propext ⟨fun h => ?_, fun h => h ▸ rfl⟩
  have := congrArg Int64.toNatClampNeg h
  rwa [ql_nat ha, ql_nat hb] at this
theorem qn_and (a b : Nat) : qn a &&& qn b = qn (a &&& b) := by
  apply Int32.toBitVec_inj.1
  rw [Int32.toBitVec_and]
  show BitVec.ofNat 32 a &&& BitVec.ofNat 32 b = BitVec.ofNat 32 (a &&& b)
  apply BitVec.eq_of_toNat_eq
  rw [BitVec.toNat_and, BitVec.toNat_ofNat, BitVec.toNat_ofNat, BitVec.toNat_ofNat]
  exact (Nat.and_mod_two_pow).symm
theorem qn_or (a b : Nat) : qn a ||| qn b = qn (a ||| b) := by
  apply Int32.toBitVec_inj.1
  rw [Int32.toBitVec_or]
  show BitVec.ofNat 32 a ||| BitVec.ofNat 32 b = BitVec.ofNat 32 (a ||| b)
  apply BitVec.eq_of_toNat_eq
  rw [BitVec.toNat_or, BitVec.toNat_ofNat, BitVec.toNat_ofNat, BitVec.toNat_ofNat]
  exact (Nat.or_mod_two_pow).symm
theorem qn_sm : ∀ b, b < 32 → ((BitVec.ofNat 32 b &&& 31#32).smod 32).toNat = b := by decide
theorem qn_shl {a b : Nat} (hb : b < 32) : qn a <<< (qn b &&& qn 31) = qn (a * 2 ^ b) := by
  apply Int32.toBitVec_inj.1
  rw [Int32.toBitVec_shiftLeft, Int32.toBitVec_and]
  show BitVec.ofNat 32 a <<< (BitVec.smod (BitVec.ofNat 32 b &&& 31#32) 32).toNat = BitVec.ofNat 32 (a * 2 ^ b)
  rw [qn_sm b hb]
  apply BitVec.eq_of_toNat_eq
  rw [BitVec.toNat_shiftLeft, BitVec.toNat_ofNat, BitVec.toNat_ofNat, Nat.shiftLeft_eq]
  exact Nat.mod_mul_mod a (2 ^ b) (2 ^ 32)
theorem qn_shr {a b : Nat} (ha : a < 2147483648) (hb : b < 32) : qn a >>> (qn b &&& qn 31) = qn (a / 2 ^ b) := by
  apply Int32.toBitVec_inj.1
  rw [Int32.toBitVec_shiftRight, Int32.toBitVec_and]
  show BitVec.sshiftRight (BitVec.ofNat 32 a) (BitVec.smod (BitVec.ofNat 32 b &&& 31#32) 32).toNat = BitVec.ofNat 32 (a / 2 ^ b)
  rw [qn_sm b hb]
  have e : (BitVec.ofNat 32 a).toNat = a := by rw [BitVec.toNat_ofNat]; exact Nat.mod_eq_of_lt (by omega)
  rw [BitVec.sshiftRight_eq_of_msb_false (BitVec.msb_eq_false_iff_two_mul_lt.mpr (by rw [e]; omega))]
  apply BitVec.eq_of_toNat_eq
  rw [BitVec.toNat_ushiftRight, e, BitVec.toNat_ofNat, Nat.shiftRight_eq_div_pow]
  exact (Nat.mod_eq_of_lt (Nat.lt_of_le_of_lt (Nat.div_le_self _ _) (by omega))).symm
theorem qn_shl1 {a b : Nat} (hb : b < 32) : qn a <<< qn (b &&& 31) = qn (a * 2 ^ b) := by rw [← qn_and]; exact qn_shl hb
theorem qn_shr1 {a b : Nat} (ha : a < 2147483648) (hb : b < 32) : qn a >>> qn (b &&& 31) = qn (a / 2 ^ b) := by rw [← qn_and]; exact qn_shr ha hb
theorem qn_64 {k : Nat} (h : k < 2147483648) : Int32.toInt64 (qn k) = ql k := by
  apply Int64.toInt_inj.1
  rw [Int32.toInt_toInt64, qn_toInt h, ql_toInt (by omega)]
theorem ql_32 (k : Nat) : Int64.toInt32 (ql k) = qn k := by
  apply Int32.toInt_inj.1
  rw [Int64.toInt_toInt32]
  unfold ql qn
  rw [Int64.toInt_ofNat', Int32.toInt_ofNat']
  exact Int.bmod_bmod_of_dvd (by decide)
/-! a number is small and not negative, or out of bounds -/
theorem qn_ofI {r : Int32} (h : 0 ≤ r) : ∃ k, k < 2147483648 ∧ r = qn k := ⟨r.toNatClampNeg, Int32.toNatClampNeg_lt r, (Int32.ofNat_toNatClampNeg r h).symm⟩
theorem qn_cs (n : Nat) (hn : n < 2147483648) (r : Int32) : (∃ k, k < n ∧ r = qn k) ∨ (¬ (0 ≤ r ∧ r < qn n) ∧ (r < 0 ∨ qn n ≤ r)) := by
  by_cases h0 : 0 ≤ r
  · obtain ⟨k, hk, rfl⟩ := qn_ofI h0
    by_cases h : k < n
    · exact Or.inl ⟨k, h, rfl⟩
    · refine Or.inr ⟨fun q => ?_, Or.inr ?_⟩
      · rw [qn_lt hk hn] at q; exact h q.2
      · rw [qn_le hn hk]; omega
  · exact Or.inr ⟨fun q => h0 q.1, Or.inl (by rw [Int32.lt_iff_toInt_lt]; rw [Int32.le_iff_toInt_le] at h0; omega)⟩
theorem qn_n0 {k : Nat} (h : k < 2147483648) : (qn k < 0) = False := by
  refine propext ⟨fun q => ?_, False.elim⟩
  have := (qn_lt h (by omega : 0 < 2147483648)).mp q
  omega
theorem qn_m1 {k : Nat} (h : k < 2147483648) : (qn k = -qn 1) = False := by
  refine propext ⟨fun q => ?_, False.elim⟩
  have e := congrArg Int32.toInt q
  rw [qn_toInt h] at e
  have : (-qn 1 : Int32).toInt = -1 := rfl
  omega
theorem qn_m1' {k : Nat} (h : k < 2147483648) : (-qn 1 = qn k) = False := by
  rw [show (-qn 1 = qn k) = (qn k = -qn 1) from propext ⟨Eq.symm, Eq.symm⟩]; exact qn_m1 h
theorem qn_c1 {k : Nat} (h : k < 2147483648) : (qn k ≤ -qn 1) = False := by
  refine propext ⟨fun q => ?_, False.elim⟩
  have e := Int32.le_iff_toInt_le.mp q
  rw [qn_toInt h] at e
  have : (-qn 1 : Int32).toInt = -1 := rfl
  omega
theorem qn_g1 {k : Nat} (h : k < 2147483648) : (-qn 1 < qn k) = True := by
  refine propext ⟨fun _ => trivial, fun _ => ?_⟩
  rw [Int32.lt_iff_toInt_lt, qn_toInt h]
  have : (-qn 1 : Int32).toInt = -1 := rfl
  omega
theorem qn_g1' {k : Nat} (h : k < 2147483648) : (-qn 1 ≤ qn k) = True := by
  refine propext ⟨fun _ => trivial, fun _ => ?_⟩
  rw [Int32.le_iff_toInt_le, qn_toInt h]
  have : (-qn 1 : Int32).toInt = -1 := rfl
  omega
theorem qn_c1' {k : Nat} (h : k < 2147483648) : (qn k < -qn 1) = False := by
  refine propext ⟨fun q => ?_, False.elim⟩
  have e := Int32.lt_iff_toInt_lt.mp q
  rw [qn_toInt h] at e
  have : (-qn 1 : Int32).toInt = -1 := rfl
  omega
/-! what omega decides of naturals -/
theorem qt_le {a b : Nat} (h : a ≤ b) : (a ≤ b) = True := eq_true h
theorem qf_le {a b : Nat} (h : b < a) : (a ≤ b) = False := eq_false (by omega)
theorem qt_lt {a b : Nat} (h : a < b) : (a < b) = True := eq_true h
theorem qf_lt {a b : Nat} (h : b ≤ a) : (a < b) = False := eq_false (by omega)
theorem qt_eq {a b : Nat} (h : a = b) : (a = b) = True := eq_true h
theorem qf_eq {a b : Nat} (h : a ≠ b) : (a = b) = False := eq_false h
theorem qp_gd_T {β : Type} {i : Decidable True} {x : Option β} : @qp_gd β True i x = x := if_pos trivial
theorem qp_gd_F {β : Type} {i : Decidable False} {x : Option β} : @qp_gd β False i x = none := if_neg id
/-! memory -/
theorem qm_nk {α : Type} {f : Nat → Nat → α} {k j : Nat} {v : α} {k' : Nat} (h : k ≠ k') : qp_up f k j v k' = f k' := by
  funext j'
  unfold qp_up
  rw [show Nat.beq k k' = false from Bool.eq_false_iff.mpr (fun q => h (Nat.eq_of_beq_eq_true q))]; rfl
theorem qm_eq {α : Type} {f : Nat → Nat → α} {k j : Nat} {v : α} {j' : Nat} (h : j = j') : qp_up f k j v k j' = v := by
  subst h
  unfold qp_up
  rw [Nat.beq_refl, Nat.beq_refl]; rfl
theorem qm_nj {α : Type} {f : Nat → Nat → α} {k j : Nat} {v : α} {j' : Nat} (h : j ≠ j') : qp_up f k j v k j' = f k j' := by
  unfold qp_up
  rw [show Nat.beq j j' = false from Bool.eq_false_iff.mpr (fun q => h (Nat.eq_of_beq_eq_true q)), Bool.and_false]; rfl
theorem qm_if {α : Type} {f : Nat → Nat → α} {k j : Nat} {v : α} {j' : Nat} : qp_up f k j v k j' = if j = j' then v else f k j' := by
  by_cases h : j = j'
  · rw [qm_eq h, if_pos h]
  · rw [qm_nj h, if_neg h]

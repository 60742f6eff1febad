/-! numbers and sets as Nats -/
theorem z_sl : ∀ n, n < 32 → ((nI n &&& 31).toBitVec.smod 32).toNat = n := by decide
theorem z_shl {m k : Nat} (hk : k < 32) (h : m * 2 ^ k < 2 ^ 32) : kshl (nI m) (nI k) = nI (m * 2 ^ k) := pk_shlN _ k (z_sl k hk) h
theorem z_shl1 {k : Nat} (hk : k < 31) : kshl 1 (nI k) = nI (2 ^ k) := by
  have h1 : 2 ^ k < 2 ^ 32 := Nat.pow_lt_pow_right (by omega) (by omega)
  have := z_shl (m := 1) (k := k) (by omega) (by omega)
  rw [Nat.one_mul] at this
  exact this
theorem z_shr {m k : Nat} (hm : m < 2 ^ 31) (hk : k < 32) : kshr (nI m) (nI k) = nI (m >>> k) := by
  rw [kshr, pk_shrN hm _ k (z_sl k hk), Nat.shiftRight_eq_div_pow]
theorem z_and1 (m : Nat) : nI m &&& 1 = nI (m % 2) := by
  exact fa_mask m 1
theorem z_bit {m k : Nat} (hm : m < 2 ^ 31) (hk : k < 32) : kshr (nI m) (nI k) &&& 1 = if m.testBit k then 1 else 0 := by
  rw [z_shr hm hk, z_and1]
  have : m >>> k % 2 = if m.testBit k then 1 else 0 := by
    rw [Nat.testBit_eq_decide_div_mod_eq, Nat.shiftRight_eq_div_pow]
    by_cases h : m / 2 ^ k % 2 = 1
    · simp [h]
    · simp [h]; omega
  rw [this]
  split <;> rfl
theorem z_ite (b : Bool) : ((if b then (1 : Int32) else 0) = 0) ↔ b = false := by cases b <;> decide
theorem z_ite1 (b : Bool) : ((if b then (1 : Int32) else 0) = 1) ↔ b = true := by cases b <;> decide
theorem z_iteN (b : Bool) : (if b then (1 : Int32) else 0) = nI (if b then 1 else 0) := by cases b <;> rfl
/-- a without b -/
def ndf (a b : Nat) : Nat := a ^^^ (a &&& b)
theorem ndf_bit (a b i : Nat) : (ndf a b).testBit i = (a.testBit i && !b.testBit i) := by
  simp only [ndf, Nat.testBit_xor, Nat.testBit_and]
  cases a.testBit i <;> cases b.testBit i <;> rfl
theorem z_bv (n : Nat) : (nI n).toBitVec = BitVec.ofNat 32 n := rfl
theorem z_m1 : ((-1 : Int32)).toBitVec = BitVec.allOnes 32 := by decide
theorem z_inj {x y : Int32} (h : x.toBitVec = y.toBitVec) : x = y := Int32.toBitVec_inj.mp h
theorem z_andn (a b : Nat) : nI a &&& (nI b ^^^ (-1)) = nI (ndf a b) := by
  apply z_inj
  apply BitVec.eq_of_getLsbD_eq
  intro i hi
  simp only [Int32.toBitVec_and, Int32.toBitVec_xor, z_bv, z_m1, BitVec.getLsbD_and, BitVec.getLsbD_xor, BitVec.getLsbD_ofNat, BitVec.getLsbD_allOnes, ndf_bit, hi, decide_true, Bool.true_and, Bool.xor_true]
theorem z_not (b : Nat) : ¬ (nI b ^^^ (-1) = 0) ∨ True := Or.inr trivial
theorem nor_lt {a b k : Nat} (ha : a < 2 ^ k) (hb : b < 2 ^ k) : a ||| b < 2 ^ k := Nat.or_lt_two_pow ha hb
theorem nand_lt {a b k : Nat} (ha : a < 2 ^ k) : a &&& b < 2 ^ k := Nat.lt_of_le_of_lt Nat.and_le_left ha
theorem ndf_lt {a b k : Nat} (ha : a < 2 ^ k) : ndf a b < 2 ^ k := Nat.xor_lt_two_pow ha (nand_lt ha)
theorem nb_ge {a k i : Nat} (ha : a < 2 ^ k) (hi : k ≤ i) : a.testBit i = false := Nat.testBit_lt_two_pow (Nat.lt_of_lt_of_le ha (Nat.pow_le_pow_right (by omega) hi))
theorem nb_ext {a b k : Nat} (ha : a < 2 ^ k) (hb : b < 2 ^ k) (h : ∀ i, i < k → a.testBit i = b.testBit i) : a = b := by
  apply Nat.eq_of_testBit_eq
  intro i
  by_cases hi : i < k
  · exact h i hi
  · rw [nb_ge ha (by omega), nb_ge hb (by omega)]
theorem nb_zero {a k : Nat} (ha : a < 2 ^ k) : a = 0 ↔ ∀ i, i < k → a.testBit i = false := by
  constructor
  · intro h i _; rw [h, Nat.zero_testBit]
  · intro h; exact nb_ext ha (Nat.two_pow_pos k) (fun i hi => by rw [h i hi, Nat.zero_testBit])
theorem nb_pow (k i : Nat) : (2 ^ k).testBit i = decide (k = i) := Nat.testBit_two_pow
theorem nI_z {a : Nat} (h : a < 2 ^ 31) : nI a = 0 ↔ a = 0 := by
  have := nI_eq (a := a) (b := 0) h (by omega)
  rw [nI_0] at this
  exact this
theorem lN_z {a : Nat} (h : a < 2 ^ 63) : lN a = 0 ↔ a = 0 := by
  have := pk_lEQ (a := a) (b := 0) h (by omega)
  exact this
theorem nI_addn {a b : Nat} (h : b ≤ a) : nI a + -nI b = nI (a - b) := by rw [← Int32.sub_eq_add_neg, pk_sub h]
theorem nI_addm {a : Nat} (h : 1 ≤ a) : nI a + -1 = nI (a - 1) := nI_addn (b := 1) h
theorem nI_subm {a : Nat} (h : 1 ≤ a) : nI a - 1 = nI (a - 1) := pk_sub (b := 1) h
theorem z_ush {m k : Nat} (hm : m < 2 ^ 32) (hk : k < 32) : kush (nI m) (nI k) = nI (m / 2 ^ k) := by
  refine pk_ushrN hm (nI k) k ?_
  have : ∀ k, k < 32 → (((nI k).toUInt32 &&& Int32.toUInt32 31).toBitVec % 32).toNat = k := by decide
  exact this k hk
theorem z_c64 : ∀ k, k < 64 → ((nI k).toInt64 &&& 63).toBitVec.smod 64 = BitVec.ofNat 64 k := by decide
theorem z_cu64 : ∀ k, k < 64 → ((nI k).toInt64.toUInt64 &&& Int64.toUInt64 63) = UInt64.ofNat k := by decide

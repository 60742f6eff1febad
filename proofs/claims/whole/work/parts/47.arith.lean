/-! arithmetic rows with side conditions for omega -/
theorem a_0 : (0 : Int32) = nI 0 := rfl
theorem a_1 : (1 : Int32) = nI 1 := rfl
theorem a_L0 : (0 : Int64) = lN 0 := rfl
theorem a_L1 : (1 : Int64) = lN 1 := rfl
theorem a_lt {a b : Nat} (ha : a < 2 ^ 31) (hb : b < 2 ^ 31) : (nI a < nI b) = (a < b) := by
  apply propext
  constructor
  · intro h
    rcases Nat.lt_or_ge a b with q | q
    · exact q
    · exact absurd h (nI_nlt q ha)
  · intro h; exact nI_lt h hb
theorem a_le {a b : Nat} (ha : a < 2 ^ 31) (hb : b < 2 ^ 31) : (nI a ≤ nI b) = (a ≤ b) := by
  apply propext
  constructor
  · intro h
    rcases Nat.lt_or_ge b a with q | q
    · exact absurd h (nI_ge q ha)
    · exact q
  · intro h; exact nI_le h hb
theorem a_eq {a b : Nat} (ha : a < 2 ^ 31) (hb : b < 2 ^ 31) : (nI a = nI b) = (a = b) := propext (nI_eq ha hb)
theorem a_sub {a b : Nat} (h : b ≤ a) : nI a - nI b = nI (a - b) := pk_sub h
theorem a_addn {a b : Nat} (h : b ≤ a) : nI a + -nI b = nI (a - b) := nI_addn h
theorem a_in {n N : Nat} (h : n < N) (hN : N < 2 ^ 31) : vp_in (nI n) N = True := eq_true (vp_in_nI h hN)
theorem a_ti {a : Nat} (h : a < 2 ^ 31) : (nI a).toInt = a := by
  have h2 : (BitVec.ofNat 32 a).toInt = a := by
    rw [BitVec.toInt_eq_toNat_of_lt]
    · simp; omega
    · simp; omega
  exact h2
theorem a_nti : ∀ k : Fin 4, (-nI (k.val + 1)).toInt = -((k.val : Int) + 1) := by decide
theorem a_n1 : (-nI 1).toInt = -1 := by decide
theorem a_eqn {a : Nat} (ha : a < 2 ^ 31) : (nI a = -nI 1) = False := by
  apply eq_false
  intro h
  have := congrArg Int32.toInt h
  rw [a_ti ha, a_n1] at this
  omega
theorem a_eqn' {a : Nat} (ha : a < 2 ^ 31) : (-nI 1 = nI a) = False := by
  exact eq_false (fun h => by have := a_eqn ha; rw [eq_comm] at h; rw [this] at h; exact h)
theorem a_ltn {a : Nat} (ha : a < 2 ^ 31) : (nI a < -nI 1) = False := by
  apply eq_false
  rw [Int32.lt_iff_toInt_lt, a_ti ha, a_n1]
  omega
theorem a_ltn' {a : Nat} (ha : a < 2 ^ 31) : (-nI 1 < nI a) = True := by
  apply eq_true
  rw [Int32.lt_iff_toInt_lt, a_ti ha, a_n1]
  omega
theorem a_len {a : Nat} (ha : a < 2 ^ 31) : (nI a ≤ -nI 1) = False := by
  apply eq_false
  rw [Int32.le_iff_toInt_le, a_ti ha, a_n1]
  omega
theorem a_len' {a : Nat} (ha : a < 2 ^ 31) : (-nI 1 ≤ nI a) = True := by
  apply eq_true
  rw [Int32.le_iff_toInt_le, a_ti ha, a_n1]
  omega
theorem a_shl1 {k : Nat} (hk : k < 31) : kshl (nI 1) (nI k) = nI (2 ^ k) := z_shl1 hk
theorem a_tb (m k : Nat) : m >>> k &&& 1 = (m.testBit k).toNat := by
  rw [Nat.testBit_eq_decide_div_mod_eq, Nat.shiftRight_eq_div_pow, Nat.and_one_is_mod]
  by_cases h : m / 2 ^ k % 2 = 1
  · simp [h]
  · simp [h]; omega
theorem a_tb0 (m : Nat) : m &&& 1 = (m.testBit 0).toNat := a_tb m 0
theorem a_b0 (b : Bool) : (nI b.toNat = nI 0) = (b = false) := by cases b <;> simp <;> decide
theorem a_b1 (b : Bool) : (nI b.toNat = nI 1) = (b = true) := by cases b <;> simp <;> decide
theorem a_bi (b : Bool) : (if b then nI 1 else nI 0) = nI b.toNat := by cases b <;> rfl
theorem a_lb : ∀ m : Fin 64, 0 < m.val → ∃ t : Fin 6, nI m.val &&& -nI m.val = nI (2 ^ t.val) ∧ m.val.testBit t.val = true ∧ (m.val ^^^ 2 ^ t.val) < m.val ∧ 2 ^ t.val ≤ m.val ∧ (m.val ^^^ 2 ^ t.val = 0 ↔ m.val = 2 ^ t.val) := by decide +kernel
theorem a_lc0 {a b : Nat} (ha : a < 2 ^ 63) (hb : b < 2 ^ 63) : (lg_cmp (lN a) (lN b) = nI 0) = (a = b) := by
  apply propext
  unfold lg_cmp
  rw [← pk_lEQ ha hb]
  show (if lN b < lN a then (1 : Int32) else if lN a = lN b then 0 else -1) = nI 0 ↔ _
  by_cases h1 : lN b < lN a
  · rw [if_pos h1]
    constructor
    · intro h; exact absurd h (by decide)
    · intro h; rw [h] at h1; exact absurd h1 (Int64.lt_irrefl)
  · rw [if_neg h1]
    by_cases h2 : lN a = lN b
    · rw [if_pos h2]; exact ⟨fun _ => h2, fun _ => rfl⟩
    · rw [if_neg h2]
      exact ⟨fun h => absurd h (by decide), fun h => absurd h h2⟩
theorem a_lcle {a b : Nat} (ha : a < 2 ^ 63) (hb : b < 2 ^ 63) : (lg_cmp (lN a) (lN b) ≤ nI 0) = (a ≤ b) := by
  apply propext
  unfold lg_cmp
  show (if lN b < lN a then (1 : Int32) else if lN a = lN b then 0 else -1) ≤ nI 0 ↔ _
  by_cases h1 : lN b < lN a
  · rw [if_pos h1]
    have := (pk_lLT hb ha).mp h1
    exact ⟨fun h => absurd h (by decide), fun h => by omega⟩
  · rw [if_neg h1]
    have : ¬ b < a := fun q => h1 ((pk_lLT hb ha).mpr q)
    refine ⟨fun _ => by omega, fun _ => ?_⟩
    split <;> decide
theorem a_lcge {a b : Nat} (ha : a < 2 ^ 63) (hb : b < 2 ^ 63) : (nI 0 ≤ lg_cmp (lN a) (lN b)) = (b ≤ a) := by
  apply propext
  unfold lg_cmp
  show nI 0 ≤ (if lN b < lN a then (1 : Int32) else if lN a = lN b then 0 else -1) ↔ _
  by_cases h1 : lN b < lN a
  · rw [if_pos h1]
    have := (pk_lLT hb ha).mp h1
    exact ⟨fun h => by omega, fun h => by decide⟩
  · rw [if_neg h1]
    have : ¬ b < a := fun q => h1 ((pk_lLT hb ha).mpr q)
    by_cases h2 : lN a = lN b
    · rw [if_pos h2]
      have := (pk_lEQ ha hb).mp h2
      exact ⟨fun _ => by omega, fun _ => by decide⟩
    · rw [if_neg h2]
      have : ¬ a = b := fun q => h2 ((pk_lEQ ha hb).mpr q)
      exact ⟨fun h => absurd h (by decide), fun h => by omega⟩
theorem a_lclt {a b : Nat} (ha : a < 2 ^ 63) (hb : b < 2 ^ 63) : (lg_cmp (lN a) (lN b) < nI 0) = (a < b) := by
  have := a_lcge ha hb
  apply propext
  rw [← Int32.not_le, this]
  omega
theorem a_lcgt {a b : Nat} (ha : a < 2 ^ 63) (hb : b < 2 ^ 63) : (nI 0 < lg_cmp (lN a) (lN b)) = (b < a) := by
  have := a_lcle ha hb
  apply propext
  rw [← Int32.not_le, this]
  omega
theorem a_eqn2 {a : Nat} (ha : a < 2 ^ 31) : (nI a = -nI 2) = False := by
  apply eq_false
  intro h
  have := congrArg Int32.toInt h
  rw [a_ti ha, show (-nI 2).toInt = -2 by decide] at this
  omega
theorem a_n12 : (-nI 1 = -nI 2) = False := by decide

/-! how many bits -/
theorem bc5_eq {m : Nat} (hm : m < 2 ^ 16) : bc5 m = pcn m 16 := by
  refine Nat.eq_of_beq_eq_true ?_
  have h := allb_ok (fun m => Nat.beq (bc5 m) (pcn m 16)) 12 (m / 2 ^ 12)
  have hq : m / 2 ^ 12 < 16 := by omega
  have hh : allb (fun m => Nat.beq (bc5 m) (pcn m 16)) 12 (m / 2 ^ 12) = true := by
    generalize m / 2 ^ 12 = k at hq
    match k, hq with
    | 0, _ => exact bc5_0
    | 1, _ => exact bc5_1
    | 2, _ => exact bc5_2
    | 3, _ => exact bc5_3
    | 4, _ => exact bc5_4
    | 5, _ => exact bc5_5
    | 6, _ => exact bc5_6
    | 7, _ => exact bc5_7
    | 8, _ => exact bc5_8
    | 9, _ => exact bc5_9
    | 10, _ => exact bc5_10
    | 11, _ => exact bc5_11
    | 12, _ => exact bc5_12
    | 13, _ => exact bc5_13
    | 14, _ => exact bc5_14
    | 15, _ => exact bc5_15
    | k + 16, hq => omega
  exact h hh m rfl
/-- as many as bits -/
def bcn (m n : Nat) : Nat := cnt (fun i => m.testBit i) n
theorem pcn_div : ∀ (k m : Nat), pcn m (k + 1) = pcn m k + (m / 2 ^ k) % 2
  | 0, m => by simp [pcn]
  | k + 1, m => by
    rw [pcn, pcn_div k (m / 2), pcn, Nat.div_div_eq_div_mul, ← Nat.pow_succ', Nat.add_assoc]
theorem pcn_bcn (m : Nat) : ∀ k, pcn m k = bcn m k
  | 0 => rfl
  | k + 1 => by
    rw [pcn_div, pcn_bcn m k]
    unfold bcn
    have hb : (m / 2 ^ k) % 2 = (m.testBit k).toNat := by
      rw [Nat.testBit_eq_decide_div_mod_eq]
      by_cases h : m / 2 ^ k % 2 = 1
      · simp [h]
      · simp [h]; omega
    rw [hb, cnt]
section CT
variable {r : Nat} {h : KH} {Q : KO → KH → Prop}
theorem c_bitCount {m : Nat} (hm : m < 2 ^ 16) (H : Q (.inl (some (.int (nI (bcn m 16))))) h) : kCalls r yJ6_bitCount_0f7a4 [.int (nI m)] h Q := by
  refine sJ6_bitCount_0f7a4 _ ?_
  refine eJ6_bitCount_0f7a4_0 ?_
  simp only [ks_nop, ks_iload_0, ks_istore_0, ks_iconst, ks_bipush, ks_ldc_w, ks_iadd, ks_isub, ks_iand, ks_iushr, ks_iret0, kldi_0, kldl_0, klda_0, kldz_0, kst1_0, kst2_0, kcat_n, kcat_i, kcat_r, kcat_z, kcat_l, zl_2, zl_4, zl_8, zl_16, zl_63, zl_252645135, zl_858993459, zl_1431655765, jJ6_bitCount_0f7a4_0, bJ6_bitCount_0f7a4_0]
  refine ⟨by simp, ?_⟩
  rw [show (1 : Int32) = nI 1 from rfl]
  have a1 : m / 2 ^ 1 &&& 1431655765 ≤ m / 2 ^ 1 := Nat.and_le_left
  rw [z_ush (by omega) (by omega), fa_and, pk_sub (by omega)]
  obtain ⟨a, ha⟩ : ∃ a, a = m - (m / 2 ^ 1 &&& 1431655765) := ⟨_, rfl⟩
  rw [← ha]
  have b1 : a &&& 858993459 ≤ a := Nat.and_le_left
  have b2 : a / 2 ^ 2 &&& 858993459 ≤ a / 2 ^ 2 := Nat.and_le_left
  rw [z_ush (by omega) (by omega), fa_and, fa_and, nI_add]
  obtain ⟨b, hb⟩ : ∃ b, b = (a &&& 858993459) + (a / 2 ^ 2 &&& 858993459) := ⟨_, rfl⟩
  rw [← hb]
  have c1 : b + b / 2 ^ 4 &&& 252645135 ≤ b + b / 2 ^ 4 := Nat.and_le_left
  rw [z_ush (by omega) (by omega), nI_add, fa_and]
  obtain ⟨c, hc⟩ : ∃ c, c = b + b / 2 ^ 4 &&& 252645135 := ⟨_, rfl⟩
  rw [← hc]
  rw [z_ush (by omega) (by omega), nI_add]
  obtain ⟨d, hd⟩ : ∃ d, d = c + c / 2 ^ 8 := ⟨_, rfl⟩
  rw [← hd]
  rw [z_ush (by omega) (by omega), nI_add, fa_and]
  have e : d + d / 2 ^ 16 &&& 63 = bc5 m := by
    simp only [hd, hc, hb, ha]
    rfl
  rw [e, bc5_eq hm, pcn_bcn]
  exact H
theorem low_clear {t q : Nat} : (2 ^ (t + 1) * q + 2 ^ t) &&& (2 ^ (t + 1) * q + 2 ^ t - 1) = 2 ^ (t + 1) * q := by
  have hp := Nat.two_pow_pos t
  have hlt : 2 ^ t < 2 ^ (t + 1) := by rw [Nat.pow_succ]; omega
  have e1 : 2 ^ (t + 1) * q + 2 ^ t - 1 = 2 ^ (t + 1) * q + (2 ^ t - 1) := by omega
  apply Nat.eq_of_testBit_eq
  intro j
  rw [Nat.testBit_and, e1, Nat.testBit_two_pow_mul_add q hlt, Nat.testBit_two_pow_mul_add q (by omega), nb_pow, Nat.testBit_two_pow_sub_one, Nat.testBit_two_pow_mul]
  by_cases hj : j < t + 1
  · simp only [hj, if_true]
    have : ¬ t + 1 ≤ j := by omega
    simp [this]; omega
  · have : t + 1 ≤ j := by omega
    simp [hj, this]
theorem c_bits {m : Nat} (hm : m < 2 ^ 16) (H : Q (.inl (some (.int (nI (bcn m 16))))) h) : kCalls r yX12_bits [.int (nI m)] h Q := by
  refine sX12_bits _ ?_
  refine eX12_bits_0 ?_
  simp only [ks_nop, ks_iload_0, ks_iload_1, ks_iload_2, ks_istore_1, ks_istore_2, ks_iconst, ks_iinc, ks_isub, ks_iand, ks_if_eq, ks_goto, ks_iret0, kldi_0, kldl_0, klda_0, kldz_0, kst1_0, kst2_0, kldi_1, kldl_1, klda_1, kldz_1, kst1_1n, kst2_1n, kst1_1i, kst2_1i, kst1_1r, kst2_1r, kst1_1z, kst2_1z, kst1_1l, kst2_1l, kldi_2, kldl_2, klda_2, kldz_2, kst1_2n, kst2_2n, kst1_2i, kst2_2i, kst1_2r, kst2_2r, kst1_2z, kst2_2z, kst1_2l, kst2_2l, kcat_n, kcat_i, kcat_r, kcat_z, kcat_l, jX12_bits_0, bX12_bits_0, jX12_bits_4, bX12_bits_4, jX12_bits_20, bX12_bits_20, Nat.reduceAdd, Nat.reduceLeDiff, Nat.reduceEqDiff, Nat.reduceSub, Nat.zero_le, Nat.add_left_cancel_iff, true_and, and_true, if_true, if_false, reduceIte, ne_eq, not_false_eq_true, Nat.add_eq_left, Nat.left_eq_add, kI_sI, kL_sI, kR_sI, kK_sI, kI_sL, kL_sL, kR_sL, kK_sL, kI_sIA, kL_sIA, kR_sIA, kK_sIA, kI_sLA, kL_sLA, kR_sLA, kK_sLA]
  try simp (disch := omega) only [a_0, a_1, a_L0, a_L1, a_lt, a_le, a_eq, a_sub, a_addn, nI_add, pk_mul, a_in, nI_clamp, a_eqn, a_eqn', a_eqn2, a_n12, eq_self, a_ltn, a_ltn', a_len, a_len', a_shl1, z_shr, fa_and, fa_or, a_tb, a_tb0, a_b0, a_b1, a_bi, a_lc0, a_lcle, a_lcge, a_lclt, a_lcgt, upd_at, upd_ne, updL_at, updL_ne, Nat.reduceAdd, Nat.reduceSub, Nat.reduceMul, Nat.reduceLT, Nat.reduceLeDiff, Nat.reduceEqDiff, true_and, and_true, if_true, if_false, reduceIte, ne_eq, not_false_eq_true, not_true_eq_false, true_implies, false_implies, Nat.not_lt, Nat.not_le, Nat.le_refl, Nat.add_sub_cancel, Nat.lt_irrefl, Nat.not_lt_zero, Nat.zero_le, Nat.testBit_shiftRight, Nat.add_zero, reduceCtorEq, true_or, or_true, or_false, false_or, Bool.true_eq_false, Bool.false_eq_true, Bool.not_eq_false, Bool.not_eq_true, Decidable.not_not]
  have loop : ∀ k v c, v < k → v < 2 ^ 16 → c + bcn v 16 = bcn m 16 → kRun r mX12_bits 4 [some (.int (nI m)), some (.int (nI c)), some (.int (nI v))] [] h Q := by
    intro k
    induction k with
    | zero => intro v c hv; omega
    | succ k ih =>
      intro v c hv h16 hc
      refine eX12_bits_4 ?_
      simp only [ks_nop, ks_iload_0, ks_iload_1, ks_iload_2, ks_istore_1, ks_istore_2, ks_iconst, ks_iinc, ks_isub, ks_iand, ks_if_eq, ks_goto, ks_iret0, kldi_0, kldl_0, klda_0, kldz_0, kst1_0, kst2_0, kldi_1, kldl_1, klda_1, kldz_1, kst1_1n, kst2_1n, kst1_1i, kst2_1i, kst1_1r, kst2_1r, kst1_1z, kst2_1z, kst1_1l, kst2_1l, kldi_2, kldl_2, klda_2, kldz_2, kst1_2n, kst2_2n, kst1_2i, kst2_2i, kst1_2r, kst2_2r, kst1_2z, kst2_2z, kst1_2l, kst2_2l, kcat_n, kcat_i, kcat_r, kcat_z, kcat_l, jX12_bits_0, bX12_bits_0, jX12_bits_4, bX12_bits_4, jX12_bits_20, bX12_bits_20, Nat.reduceAdd, Nat.reduceLeDiff, Nat.reduceEqDiff, Nat.reduceSub, Nat.zero_le, Nat.add_left_cancel_iff, true_and, and_true, if_true, if_false, reduceIte, ne_eq, not_false_eq_true, Nat.add_eq_left, Nat.left_eq_add, kI_sI, kL_sI, kR_sI, kK_sI, kI_sL, kL_sL, kR_sL, kK_sL, kI_sIA, kL_sIA, kR_sIA, kK_sIA, kI_sLA, kL_sLA, kR_sLA, kK_sLA]
      try simp (disch := omega) only [a_0, a_1, a_L0, a_L1, a_lt, a_le, a_eq, a_sub, a_addn, nI_add, pk_mul, a_in, nI_clamp, a_eqn, a_eqn', a_eqn2, a_n12, eq_self, a_ltn, a_ltn', a_len, a_len', a_shl1, z_shr, fa_and, fa_or, a_tb, a_tb0, a_b0, a_b1, a_bi, a_lc0, a_lcle, a_lcge, a_lclt, a_lcgt, upd_at, upd_ne, updL_at, updL_ne, Nat.reduceAdd, Nat.reduceSub, Nat.reduceMul, Nat.reduceLT, Nat.reduceLeDiff, Nat.reduceEqDiff, true_and, and_true, if_true, if_false, reduceIte, ne_eq, not_false_eq_true, not_true_eq_false, true_implies, false_implies, Nat.not_lt, Nat.not_le, Nat.le_refl, Nat.add_sub_cancel, Nat.lt_irrefl, Nat.not_lt_zero, Nat.zero_le, Nat.testBit_shiftRight, Nat.add_zero, reduceCtorEq, true_or, or_true, or_false, false_or, Bool.true_eq_false, Bool.false_eq_true, Bool.not_eq_false, Bool.not_eq_true, Decidable.not_not]
      refine ⟨fun c0 => ?_, fun c0 => ?_⟩
      · subst c0
        have : bcn 0 16 = 0 := by decide
        rw [this, Nat.add_zero] at hc
        rw [hc]
        exact H
      · obtain ⟨t, q, e⟩ := low_bit (Nat.pos_of_ne_zero c0)
        have cl := low_clear (t := t) (q := q)
        rw [← e] at cl
        have hp := Nat.two_pow_pos t
        have ht : t < 16 := by
          rcases Nat.lt_or_ge t 16 with z | z
          · exact z
          · have := Nat.pow_le_pow_right (n := 2) (by omega) z
            omega
        have hv1 : 1 ≤ v := Nat.pos_of_ne_zero c0
        try simp (disch := omega) only [a_0, a_1, a_L0, a_L1, a_lt, a_le, a_eq, a_sub, a_addn, nI_add, pk_mul, a_in, nI_clamp, a_eqn, a_eqn', a_eqn2, a_n12, eq_self, a_ltn, a_ltn', a_len, a_len', a_shl1, z_shr, fa_and, fa_or, a_tb, a_tb0, a_b0, a_b1, a_bi, a_lc0, a_lcle, a_lcge, a_lclt, a_lcgt, upd_at, upd_ne, updL_at, updL_ne, Nat.reduceAdd, Nat.reduceSub, Nat.reduceMul, Nat.reduceLT, Nat.reduceLeDiff, Nat.reduceEqDiff, true_and, and_true, if_true, if_false, reduceIte, ne_eq, not_false_eq_true, not_true_eq_false, true_implies, false_implies, Nat.not_lt, Nat.not_le, Nat.le_refl, Nat.add_sub_cancel, Nat.lt_irrefl, Nat.not_lt_zero, Nat.zero_le, Nat.testBit_shiftRight, Nat.add_zero, reduceCtorEq, true_or, or_true, or_false, false_or, Bool.true_eq_false, Bool.false_eq_true, Bool.not_eq_false, Bool.not_eq_true, Decidable.not_not]
        rw [cl]
        refine ih _ (c + 1) (by omega) (by omega) ?_
        have hb := low_bits (t := t) (q := q)
        rw [← e] at hb
        have c1 := cnt_one (p := fun i => (2 ^ (t + 1) * q).testBit i) (q := fun i => v.testBit i) (k0 := t) (by
          rw [Nat.testBit_two_pow_mul]; simp; omega) hb.1 (fun i hi => by
          have hlt : 2 ^ t < 2 ^ (t + 1) := by rw [Nat.pow_succ]; omega
          rw [e, Nat.testBit_two_pow_mul_add q hlt, Nat.testBit_two_pow_mul, nb_pow]
          by_cases z : i < t + 1
          · have z2 : ¬ t + 1 ≤ i := by omega
            have z3 : ¬ t = i := fun x => hi x.symm
            simp [z, z2, z3]
          · have z2 : t + 1 ≤ i := by omega
            simp [z, z2]) 16
        unfold bcn at hc ⊢
        rw [c1, decide_eq_true ht] at hc
        simp only [Bool.toNat_true] at hc
        omega
  exact loop (m + 1) m 0 (by omega) hm (by omega)
end CT

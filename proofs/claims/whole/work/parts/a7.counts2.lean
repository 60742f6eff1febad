/-! how many rules there are -/
section GR
variable {r : Nat} {h : KH} {Q : KO → KH → Prop} {B : GB} {P : List (List Nat)} {C : CL}
theorem sumf_add (f g : Nat → Nat) : ∀ k, sumf (fun i => f i + g i) k = sumf f k + sumf g k
  | 0 => rfl
  | k + 1 => by rw [sumf, sumf, sumf, sumf_add f g k]; omega
theorem c_ofTwo (w : kW h) (hC : COK C) (R : RU h B P C) (N : NU h B P C) (H : Q (.inl (some (.int (nI (sumf (n2 B P C) C.length))))) h) : kCalls r yX5_ofTwo [.ref 41] h Q := by
  have h12 := hC.1
  have k1 := N.2 C.length (Nat.le_refl _)
  have fl := fN_le (B := B) (P := P) hC (k := C.length) h12
  have e : fN B P C C.length = sumf (n1 B P C) C.length + sumf (n2 B P C) C.length := sumf_add (n1 B P C) (n2 B P C) C.length
  refine sX5_ofTwo _ ?_
  refine eX5_ofTwo_0 ?_
  simp only [ks_nop, ks_aload_0, ks_isub, ks_get0, ks_get3, ks_get1, ks_get2, ks_iald, ks_sld, ks_iret0, kldi_0, kldl_0, klda_0, kldz_0, kst1_0, kst2_0, kcat_n, kcat_i, kcat_r, kcat_z, kcat_l, jX5_ofTwo_0, bX5_ofTwo_0, Nat.reduceAdd, Nat.reduceLeDiff, Nat.reduceEqDiff, Nat.reduceSub, Nat.zero_le, Nat.add_left_cancel_iff, true_and, and_true, if_true, if_false, reduceIte, ne_eq, not_false_eq_true, Nat.add_eq_left, Nat.left_eq_add, kI_sI, kL_sI, kR_sI, kK_sI, kI_sL, kL_sL, kR_sL, kK_sL, kI_sIA, kL_sIA, kR_sIA, kK_sIA, kI_sLA, kL_sLA, kR_sLA, kK_sLA, wK_41 w, wR_41_0 w, wR_41_1 w, wR_41_2 w, wR_41_3 w, wK_42 w, wK_43 w, wK_44 w, wK_45 w, R.1, N.1]
  try simp (disch := omega) only [a_0, a_1, a_L0, a_L1, a_lt, a_le, a_eq, a_sub, a_addn, nI_add, pk_mul, a_in, nI_clamp, a_eqn, a_eqn', a_eqn2, a_n12, eq_self, a_ltn, a_ltn', a_len, a_len', a_shl1, z_shr, fa_and, fa_or, a_tb, a_tb0, a_b0, a_b1, a_bi, a_lc0, a_lcle, a_lcge, a_lclt, a_lcgt, upd_at, upd_ne, updL_at, updL_ne, Nat.reduceAdd, Nat.reduceSub, Nat.reduceMul, Nat.reduceLT, Nat.reduceLeDiff, Nat.reduceEqDiff, true_and, and_true, if_true, if_false, reduceIte, ne_eq, not_false_eq_true, not_true_eq_false, true_implies, false_implies, Nat.not_lt, Nat.not_le, Nat.le_refl, Nat.add_sub_cancel, Nat.lt_irrefl, Nat.not_lt_zero, Nat.zero_le, Nat.testBit_shiftRight, Nat.add_zero, reduceCtorEq, true_or, or_true, or_false, false_or, Bool.true_eq_false, Bool.false_eq_true, Bool.not_eq_false, Bool.not_eq_true, Decidable.not_not, k1, R.1, N.1]
  rw [e, show sumf (n1 B P C) C.length + sumf (n2 B P C) C.length - sumf (n1 B P C) C.length = sumf (n2 B P C) C.length by omega]
  exact H
theorem c_howManyOf {x : Nat} (w : kW h) (hC : COK C) (N : NU h B P C) (hx : x < C.length) (H : Q (.inl (some (.int (nI (rN B P C x))))) h) : kCalls r yX5_howManyOf [.ref 41, .int (nI x)] h Q := by
  have h12 := hC.1
  have k1 := N.2 x (by omega)
  have k2 := N.2 (x + 1) (by omega)
  have e : fN B P C (x + 1) = fN B P C x + rN B P C x := rfl
  have fl := fN_le (B := B) (P := P) hC (k := x + 1) (by omega)
  refine sX5_howManyOf _ _ ?_
  refine eX5_howManyOf_0 ?_
  simp only [ks_nop, ks_aload_0, ks_iload_1, ks_iconst, ks_iadd, ks_isub, ks_get0, ks_get3, ks_get1, ks_get2, ks_iald, ks_sld, ks_iret0, kldi_0, kldl_0, klda_0, kldz_0, kst1_0, kst2_0, kldi_1, kldl_1, klda_1, kldz_1, kst1_1n, kst2_1n, kst1_1i, kst2_1i, kst1_1r, kst2_1r, kst1_1z, kst2_1z, kst1_1l, kst2_1l, kcat_n, kcat_i, kcat_r, kcat_z, kcat_l, jX5_howManyOf_0, bX5_howManyOf_0, Nat.reduceAdd, Nat.reduceLeDiff, Nat.reduceEqDiff, Nat.reduceSub, Nat.zero_le, Nat.add_left_cancel_iff, true_and, and_true, if_true, if_false, reduceIte, ne_eq, not_false_eq_true, Nat.add_eq_left, Nat.left_eq_add, kI_sI, kL_sI, kR_sI, kK_sI, kI_sL, kL_sL, kR_sL, kK_sL, kI_sIA, kL_sIA, kR_sIA, kK_sIA, kI_sLA, kL_sLA, kR_sLA, kK_sLA, wK_41 w, wR_41_0 w, wR_41_1 w, wR_41_2 w, wR_41_3 w, wK_42 w, wK_43 w, wK_44 w, wK_45 w]
  try simp (disch := omega) only [a_0, a_1, a_L0, a_L1, a_lt, a_le, a_eq, a_sub, a_addn, nI_add, pk_mul, a_in, nI_clamp, a_eqn, a_eqn', a_eqn2, a_n12, eq_self, a_ltn, a_ltn', a_len, a_len', a_shl1, z_shr, fa_and, fa_or, a_tb, a_tb0, a_b0, a_b1, a_bi, a_lc0, a_lcle, a_lcge, a_lclt, a_lcgt, upd_at, upd_ne, updL_at, updL_ne, Nat.reduceAdd, Nat.reduceSub, Nat.reduceMul, Nat.reduceLT, Nat.reduceLeDiff, Nat.reduceEqDiff, true_and, and_true, if_true, if_false, reduceIte, ne_eq, not_false_eq_true, not_true_eq_false, true_implies, false_implies, Nat.not_lt, Nat.not_le, Nat.le_refl, Nat.add_sub_cancel, Nat.lt_irrefl, Nat.not_lt_zero, Nat.zero_le, Nat.testBit_shiftRight, Nat.add_zero, reduceCtorEq, true_or, or_true, or_false, false_or, Bool.true_eq_false, Bool.false_eq_true, Bool.not_eq_false, Bool.not_eq_true, Decidable.not_not, k1, k2]
  rw [show fN B P C (x + 1) - fN B P C x = rN B P C x by omega]
  exact H
end GR

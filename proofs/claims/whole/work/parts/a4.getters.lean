/-! small methods of the class -/
section GR
variable {r : Nat} {h : KH} {Q : KO → KH → Prop} {g : Nat} {B : GB} {nn : Nat} {A : List (List Nat)} {P : List (List Nat)} {C : CL}
theorem c_X0size (w : kW h) (K : AC h B A) (H : Q (.inl (some (.int (nI A.length)))) h) : kCalls r yX0_size [.ref 32] h Q := by
  refine sX0_size _ ?_
  refine eX0_size_0 ?_
  simp only [ks_nop, ks_aload_0, ks_get0, ks_get3, ks_get1, ks_get2, ks_iret0, kldi_0, kldl_0, klda_0, kldz_0, kst1_0, kst2_0, kcat_n, kcat_i, kcat_r, kcat_z, kcat_l, jX0_size_0, bX0_size_0, Nat.reduceAdd, Nat.reduceLeDiff, Nat.reduceEqDiff, Nat.reduceSub, Nat.zero_le, Nat.add_left_cancel_iff, true_and, and_true, if_true, if_false, reduceIte, ne_eq, not_false_eq_true, Nat.add_eq_left, Nat.left_eq_add, kI_sI, kL_sI, kR_sI, kK_sI, kI_sL, kL_sL, kR_sL, kK_sL, kI_sIA, kL_sIA, kR_sIA, kK_sIA, kI_sLA, kL_sLA, kR_sLA, kK_sLA, wK_32 w, wR_32_0 w, wR_32_1 w, wK_33 w, wK_34 w, K.1]
  exact ⟨by simp, H⟩
theorem c_X0told (w : kW h) (K : AC h B A) (H : Q (.inl (some (.int (nI (tcn B A))))) h) : kCalls r yX0_howManyTold [.ref 32] h Q := by
  refine sX0_howManyTold _ ?_
  refine eX0_howManyTold_0 ?_
  simp only [ks_nop, ks_aload_0, ks_get0, ks_get3, ks_get1, ks_get2, ks_iret0, kldi_0, kldl_0, klda_0, kldz_0, kst1_0, kst2_0, kcat_n, kcat_i, kcat_r, kcat_z, kcat_l, jX0_howManyTold_0, bX0_howManyTold_0, Nat.reduceAdd, Nat.reduceLeDiff, Nat.reduceEqDiff, Nat.reduceSub, Nat.zero_le, Nat.add_left_cancel_iff, true_and, and_true, if_true, if_false, reduceIte, ne_eq, not_false_eq_true, Nat.add_eq_left, Nat.left_eq_add, kI_sI, kL_sI, kR_sI, kK_sI, kI_sL, kL_sL, kR_sL, kK_sL, kI_sIA, kL_sIA, kR_sIA, kK_sIA, kI_sLA, kL_sLA, kR_sLA, kK_sLA, wK_32 w, wR_32_0 w, wR_32_1 w, wK_33 w, wK_34 w, K.2.1]
  exact ⟨by simp, H⟩
theorem c_made (w : kW h) (K : KU h B P C) (H : Q (.inl (some (.int (nI (maN B P C))))) h) : kCalls r yX2_made [.ref 46] h Q := by
  refine sX2_made _ ?_
  refine eX2_made_0 ?_
  simp only [ks_nop, ks_aload_0, ks_get0, ks_get3, ks_get1, ks_get2, ks_iret0, kldi_0, kldl_0, klda_0, kldz_0, kst1_0, kst2_0, kcat_n, kcat_i, kcat_r, kcat_z, kcat_l, jX2_made_0, bX2_made_0, Nat.reduceAdd, Nat.reduceLeDiff, Nat.reduceEqDiff, Nat.reduceSub, Nat.zero_le, Nat.add_left_cancel_iff, true_and, and_true, if_true, if_false, reduceIte, ne_eq, not_false_eq_true, Nat.add_eq_left, Nat.left_eq_add, kI_sI, kL_sI, kR_sI, kK_sI, kI_sL, kL_sL, kR_sL, kK_sL, kI_sIA, kL_sIA, kR_sIA, kK_sIA, kI_sLA, kL_sLA, kR_sLA, kK_sLA, wK_46 w, wR_46_0 w, wR_46_1 w, wR_46_2 w, wK_47 w, wK_48 w, wK_49 w, K.1]
  exact ⟨by simp, H⟩
theorem c_reached (w : kW h) (K : KU h B P C) (H : Q (.inl (some (.int (nI (rcN B P C))))) h) : kCalls r yX2_reached [.ref 46] h Q := by
  refine sX2_reached _ ?_
  refine eX2_reached_0 ?_
  simp only [ks_nop, ks_aload_0, ks_get0, ks_get3, ks_get1, ks_get2, ks_iret0, kldi_0, kldl_0, klda_0, kldz_0, kst1_0, kst2_0, kcat_n, kcat_i, kcat_r, kcat_z, kcat_l, jX2_reached_0, bX2_reached_0, Nat.reduceAdd, Nat.reduceLeDiff, Nat.reduceEqDiff, Nat.reduceSub, Nat.zero_le, Nat.add_left_cancel_iff, true_and, and_true, if_true, if_false, reduceIte, ne_eq, not_false_eq_true, Nat.add_eq_left, Nat.left_eq_add, kI_sI, kL_sI, kR_sI, kK_sI, kI_sL, kL_sL, kR_sL, kK_sL, kI_sIA, kL_sIA, kR_sIA, kK_sIA, kI_sLA, kL_sLA, kR_sLA, kK_sLA, wK_46 w, wR_46_0 w, wR_46_1 w, wR_46_2 w, wK_47 w, wK_48 w, wK_49 w, K.2.1]
  exact ⟨by simp, H⟩
theorem c_own (w : kW h) (K : KU h B P C) (H : Q (.inl (some (.int (nI (owN B P C))))) h) : kCalls r yX2_own [.ref 46] h Q := by
  refine sX2_own _ ?_
  refine eX2_own_0 ?_
  simp only [ks_nop, ks_aload_0, ks_get0, ks_get3, ks_get1, ks_get2, ks_iret0, kldi_0, kldl_0, klda_0, kldz_0, kst1_0, kst2_0, kcat_n, kcat_i, kcat_r, kcat_z, kcat_l, jX2_own_0, bX2_own_0, Nat.reduceAdd, Nat.reduceLeDiff, Nat.reduceEqDiff, Nat.reduceSub, Nat.zero_le, Nat.add_left_cancel_iff, true_and, and_true, if_true, if_false, reduceIte, ne_eq, not_false_eq_true, Nat.add_eq_left, Nat.left_eq_add, kI_sI, kL_sI, kR_sI, kK_sI, kI_sL, kL_sL, kR_sL, kK_sL, kI_sIA, kL_sIA, kR_sIA, kK_sIA, kI_sLA, kL_sLA, kR_sLA, kK_sLA, wK_46 w, wR_46_0 w, wR_46_1 w, wR_46_2 w, wK_47 w, wK_48 w, wK_49 w, K.2.2.1]
  exact ⟨by simp, H⟩
theorem c_lasting (w : kW h) (K : KU h B P C) (H : Q (.inl (some (.int (nI (laN B P C))))) h) : kCalls r yX2_lasting [.ref 46] h Q := by
  refine sX2_lasting _ ?_
  refine eX2_lasting_0 ?_
  simp only [ks_nop, ks_aload_0, ks_iand, ks_get0, ks_get3, ks_get1, ks_get2, ks_iret0, kldi_0, kldl_0, klda_0, kldz_0, kst1_0, kst2_0, kcat_n, kcat_i, kcat_r, kcat_z, kcat_l, jX2_lasting_0, bX2_lasting_0, Nat.reduceAdd, Nat.reduceLeDiff, Nat.reduceEqDiff, Nat.reduceSub, Nat.zero_le, Nat.add_left_cancel_iff, true_and, and_true, if_true, if_false, reduceIte, ne_eq, not_false_eq_true, Nat.add_eq_left, Nat.left_eq_add, kI_sI, kL_sI, kR_sI, kK_sI, kI_sL, kL_sL, kR_sL, kK_sL, kI_sIA, kL_sIA, kR_sIA, kK_sIA, kI_sLA, kL_sLA, kR_sLA, kK_sLA, wK_46 w, wR_46_0 w, wR_46_1 w, wR_46_2 w, wK_47 w, wK_48 w, wK_49 w, K.1, K.2.1, K.2.2.1]
  try simp (disch := omega) only [a_0, a_1, a_L0, a_L1, a_lt, a_le, a_eq, a_sub, a_addn, nI_add, pk_mul, a_in, nI_clamp, a_eqn, a_eqn', a_eqn2, a_n12, eq_self, a_ltn, a_ltn', a_len, a_len', a_shl1, z_shr, fa_and, fa_or, a_tb, a_tb0, a_b0, a_b1, a_bi, a_lc0, a_lcle, a_lcge, a_lclt, a_lcgt, upd_at, upd_ne, updL_at, updL_ne, Nat.reduceAdd, Nat.reduceSub, Nat.reduceMul, Nat.reduceLT, Nat.reduceLeDiff, Nat.reduceEqDiff, true_and, and_true, if_true, if_false, reduceIte, ne_eq, not_false_eq_true, not_true_eq_false, true_implies, false_implies, Nat.not_lt, Nat.not_le, Nat.le_refl, Nat.add_sub_cancel, Nat.lt_irrefl, Nat.not_lt_zero, Nat.zero_le, Nat.testBit_shiftRight, Nat.add_zero, reduceCtorEq, true_or, or_true, or_false, false_or, Bool.true_eq_false, Bool.false_eq_true, Bool.not_eq_false, Bool.not_eq_true, Decidable.not_not]
  first
    | exact H
    | exact ⟨by simp, H⟩
theorem c_Kshortest {x : Nat} (w : kW h) (K : KU h B P C) (hC : COK C) (hx : x < C.length) (H : Q (.inl (some (.int (if shl B P C x < 21 then nI (shl B P C x) else -nI 1)))) h) : kCalls r yX2_shortest [.ref 46, .int (nI x)] h Q := by
  have h12 := hC.1
  have k := K.2.2.2.1 x hx
  refine sX2_shortest _ _ ?_
  refine eX2_shortest_0 ?_
  simp only [ks_nop, ks_aload_0, ks_iload_1, ks_get0, ks_get3, ks_get1, ks_get2, ks_iald, ks_sld, ks_iret0, kldi_0, kldl_0, klda_0, kldz_0, kst1_0, kst2_0, kldi_1, kldl_1, klda_1, kldz_1, kst1_1n, kst2_1n, kst1_1i, kst2_1i, kst1_1r, kst2_1r, kst1_1z, kst2_1z, kst1_1l, kst2_1l, kcat_n, kcat_i, kcat_r, kcat_z, kcat_l, jX2_shortest_0, bX2_shortest_0, Nat.reduceAdd, Nat.reduceLeDiff, Nat.reduceEqDiff, Nat.reduceSub, Nat.zero_le, Nat.add_left_cancel_iff, true_and, and_true, if_true, if_false, reduceIte, ne_eq, not_false_eq_true, Nat.add_eq_left, Nat.left_eq_add, kI_sI, kL_sI, kR_sI, kK_sI, kI_sL, kL_sL, kR_sL, kK_sL, kI_sIA, kL_sIA, kR_sIA, kK_sIA, kI_sLA, kL_sLA, kR_sLA, kK_sLA, wK_46 w, wR_46_0 w, wR_46_1 w, wR_46_2 w, wK_47 w, wK_48 w, wK_49 w]
  try simp (disch := omega) only [a_0, a_1, a_L0, a_L1, a_lt, a_le, a_eq, a_sub, a_addn, nI_add, pk_mul, a_in, nI_clamp, a_eqn, a_eqn', a_eqn2, a_n12, eq_self, a_ltn, a_ltn', a_len, a_len', a_shl1, z_shr, fa_and, fa_or, a_tb, a_tb0, a_b0, a_b1, a_bi, a_lc0, a_lcle, a_lcge, a_lclt, a_lcgt, upd_at, upd_ne, updL_at, updL_ne, Nat.reduceAdd, Nat.reduceSub, Nat.reduceMul, Nat.reduceLT, Nat.reduceLeDiff, Nat.reduceEqDiff, true_and, and_true, if_true, if_false, reduceIte, ne_eq, not_false_eq_true, not_true_eq_false, true_implies, false_implies, Nat.not_lt, Nat.not_le, Nat.le_refl, Nat.add_sub_cancel, Nat.lt_irrefl, Nat.not_lt_zero, Nat.zero_le, Nat.testBit_shiftRight, Nat.add_zero, reduceCtorEq, true_or, or_true, or_false, false_or, Bool.true_eq_false, Bool.false_eq_true, Bool.not_eq_false, Bool.not_eq_true, Decidable.not_not]
  rw [k]
  first
    | exact H
    | exact ⟨by simp, H⟩
theorem c_Klike {x : Nat} (w : kW h) (K : KU h B P C) (hC : COK C) (hx : x < C.length) (H : Q (.inl (some (.int (nI (lkN B P C x))))) h) : kCalls r yX2_like [.ref 46, .int (nI x)] h Q := by
  have h12 := hC.1
  have k := K.2.2.2.2 x hx
  refine sX2_like _ _ ?_
  refine eX2_like_0 ?_
  simp only [ks_nop, ks_aload_0, ks_iload_1, ks_get0, ks_get3, ks_get1, ks_get2, ks_iald, ks_sld, ks_iret0, kldi_0, kldl_0, klda_0, kldz_0, kst1_0, kst2_0, kldi_1, kldl_1, klda_1, kldz_1, kst1_1n, kst2_1n, kst1_1i, kst2_1i, kst1_1r, kst2_1r, kst1_1z, kst2_1z, kst1_1l, kst2_1l, kcat_n, kcat_i, kcat_r, kcat_z, kcat_l, jX2_like_0, bX2_like_0, Nat.reduceAdd, Nat.reduceLeDiff, Nat.reduceEqDiff, Nat.reduceSub, Nat.zero_le, Nat.add_left_cancel_iff, true_and, and_true, if_true, if_false, reduceIte, ne_eq, not_false_eq_true, Nat.add_eq_left, Nat.left_eq_add, kI_sI, kL_sI, kR_sI, kK_sI, kI_sL, kL_sL, kR_sL, kK_sL, kI_sIA, kL_sIA, kR_sIA, kK_sIA, kI_sLA, kL_sLA, kR_sLA, kK_sLA, wK_46 w, wR_46_0 w, wR_46_1 w, wR_46_2 w, wK_47 w, wK_48 w, wK_49 w]
  try simp (disch := omega) only [a_0, a_1, a_L0, a_L1, a_lt, a_le, a_eq, a_sub, a_addn, nI_add, pk_mul, a_in, nI_clamp, a_eqn, a_eqn', a_eqn2, a_n12, eq_self, a_ltn, a_ltn', a_len, a_len', a_shl1, z_shr, fa_and, fa_or, a_tb, a_tb0, a_b0, a_b1, a_bi, a_lc0, a_lcle, a_lcge, a_lclt, a_lcgt, upd_at, upd_ne, updL_at, updL_ne, Nat.reduceAdd, Nat.reduceSub, Nat.reduceMul, Nat.reduceLT, Nat.reduceLeDiff, Nat.reduceEqDiff, true_and, and_true, if_true, if_false, reduceIte, ne_eq, not_false_eq_true, not_true_eq_false, true_implies, false_implies, Nat.not_lt, Nat.not_le, Nat.le_refl, Nat.add_sub_cancel, Nat.lt_irrefl, Nat.not_lt_zero, Nat.zero_le, Nat.testBit_shiftRight, Nat.add_zero, reduceCtorEq, true_or, or_true, or_false, false_or, Bool.true_eq_false, Bool.false_eq_true, Bool.not_eq_false, Bool.not_eq_true, Decidable.not_not]
  rw [k]
  first
    | exact H
    | exact ⟨by simp, H⟩
theorem c_ofOneSign (w : kW h) (N : NU h B P C) (H : Q (.inl (some (.int (nI (sumf (n1 B P C) C.length))))) h) : kCalls r yX5_ofOneSign [.ref 41] h Q := by
  refine sX5_ofOneSign _ ?_
  refine eX5_ofOneSign_0 ?_
  simp only [ks_nop, ks_aload_0, ks_get0, ks_get3, ks_get1, ks_get2, ks_iret0, kldi_0, kldl_0, klda_0, kldz_0, kst1_0, kst2_0, kcat_n, kcat_i, kcat_r, kcat_z, kcat_l, jX5_ofOneSign_0, bX5_ofOneSign_0, Nat.reduceAdd, Nat.reduceLeDiff, Nat.reduceEqDiff, Nat.reduceSub, Nat.zero_le, Nat.add_left_cancel_iff, true_and, and_true, if_true, if_false, reduceIte, ne_eq, not_false_eq_true, Nat.add_eq_left, Nat.left_eq_add, kI_sI, kL_sI, kR_sI, kK_sI, kI_sL, kL_sL, kR_sL, kK_sL, kI_sIA, kL_sIA, kR_sIA, kK_sIA, kI_sLA, kL_sLA, kR_sLA, kK_sLA, wK_41 w, wR_41_0 w, wR_41_1 w, wR_41_2 w, wR_41_3 w, wK_42 w, wK_43 w, wK_44 w, wK_45 w, N.1]
  exact ⟨by simp, H⟩
theorem c_nodes {T : TN} (w : kW h) (K : CT h T) (H : Q (.inl (some (.int (nI T.length)))) h) : kCalls r yX3_nodes [.ref 50] h Q := by
  refine sX3_nodes _ ?_
  refine eX3_nodes_0 ?_
  simp only [ks_nop, ks_aload_0, ks_get0, ks_get3, ks_get1, ks_get2, ks_iret0, kldi_0, kldl_0, klda_0, kldz_0, kst1_0, kst2_0, kcat_n, kcat_i, kcat_r, kcat_z, kcat_l, jX3_nodes_0, bX3_nodes_0, Nat.reduceAdd, Nat.reduceLeDiff, Nat.reduceEqDiff, Nat.reduceSub, Nat.zero_le, Nat.add_left_cancel_iff, true_and, and_true, if_true, if_false, reduceIte, ne_eq, not_false_eq_true, Nat.add_eq_left, Nat.left_eq_add, kI_sI, kL_sI, kR_sI, kK_sI, kI_sL, kL_sL, kR_sL, kK_sL, kI_sIA, kL_sIA, kR_sIA, kK_sIA, kI_sLA, kL_sLA, kR_sLA, kK_sLA, wK_50 w, wR_50_0 w, wR_50_1 w, wR_50_3 w, wR_50_4 w, wK_51 w, wK_53 w, wK_54 w, K.1]
  exact ⟨by simp, H⟩
end GR

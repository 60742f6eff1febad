/-! getters of the class -/
section CG
variable {r : Nat} {h : KH} {Q : KO → KH → Prop} {B : GB} {nn g : Nat} {P : List (List Nat)} {C : CL} {T : TN}
theorem c_partRow {i : Nat} (w : kW h) (K : TB h P C) (hP : POK P) (hi : i < P.length) (H : Q (.inl (some (.long (lN (cd (gA P i)))))) h) : kCalls r yX8_partRow [.ref 35, .int (nI i)] h Q := by
  have := K.2.2.1 i hi
  have := hP.1
  have e := K.2.2.1 i hi
  refine sX8_partRow _ _ ?_
  refine eX8_partRow_0 ?_
  simp only [ks_nop, ks_aload_0, ks_iload_1, ks_get0, ks_get3, ks_get1, ks_get2, ks_lald, ks_lret, kldi_0, kldl_0, klda_0, kldz_0, kst1_0, kst2_0, kldi_1, kldl_1, klda_1, kldz_1, kst1_1n, kst2_1n, kst1_1i, kst2_1i, kst1_1r, kst2_1r, kst1_1z, kst2_1z, kst1_1l, kst2_1l, kcat_n, kcat_i, kcat_r, kcat_z, kcat_l, jX8_partRow_0, bX8_partRow_0, Nat.reduceAdd, Nat.reduceLeDiff, Nat.reduceEqDiff, Nat.reduceSub, Nat.zero_le, Nat.add_left_cancel_iff, true_and, and_true, if_true, if_false, reduceIte, ne_eq, not_false_eq_true, Nat.add_eq_left, Nat.left_eq_add, kI_sI, kL_sI, kR_sI, kK_sI, kI_sL, kL_sL, kR_sL, kK_sL, kI_sIA, kL_sIA, kR_sIA, kK_sIA, kI_sLA, kL_sLA, kR_sLA, kK_sLA, wK_35 w, wR_35_0 w, wR_35_1 w, wR_35_2 w, wR_35_3 w, wR_35_4 w, wK_36 w, wK_37 w, wK_38 w, wK_39 w, wK_40 w]
  try simp (disch := omega) only [a_0, a_1, a_L0, a_L1, a_lt, a_le, a_eq, a_sub, a_addn, nI_add, pk_mul, a_in, nI_clamp, a_eqn, a_eqn', a_eqn2, a_n12, eq_self, a_ltn, a_ltn', a_len, a_len', a_shl1, z_shr, fa_and, fa_or, a_tb, a_tb0, a_b0, a_b1, a_bi, a_lc0, a_lcle, a_lcge, a_lclt, a_lcgt, upd_at, upd_ne, updL_at, updL_ne, Nat.reduceAdd, Nat.reduceSub, Nat.reduceMul, Nat.reduceLT, Nat.reduceLeDiff, Nat.reduceEqDiff, true_and, and_true, if_true, if_false, reduceIte, ne_eq, not_false_eq_true, not_true_eq_false, true_implies, false_implies, Nat.not_lt, Nat.not_le, Nat.le_refl, Nat.add_sub_cancel, Nat.lt_irrefl, Nat.not_lt_zero, Nat.zero_le, Nat.testBit_shiftRight, Nat.add_zero, reduceCtorEq, true_or, or_true, or_false, false_or, Bool.true_eq_false, Bool.false_eq_true, Bool.not_eq_false, Bool.not_eq_true, Decidable.not_not, e]
  first | exact H | exact ⟨False.elim, H⟩
theorem c_Tleft {i : Nat} (w : kW h) (K : TB h P C) (hC : COK C) (hi : i < C.length) (H : Q (.inl (some (.long (lN (cd (gC C i).1))))) h) : kCalls r yX8_left [.ref 35, .int (nI i)] h Q := by
  have := hC.1
  have e := (K.2.2.2 i hi).1
  refine sX8_left _ _ ?_
  refine eX8_left_0 ?_
  simp only [ks_nop, ks_aload_0, ks_iload_1, ks_get0, ks_get3, ks_get1, ks_get2, ks_lald, ks_lret, kldi_0, kldl_0, klda_0, kldz_0, kst1_0, kst2_0, kldi_1, kldl_1, klda_1, kldz_1, kst1_1n, kst2_1n, kst1_1i, kst2_1i, kst1_1r, kst2_1r, kst1_1z, kst2_1z, kst1_1l, kst2_1l, kcat_n, kcat_i, kcat_r, kcat_z, kcat_l, jX8_left_0, bX8_left_0, Nat.reduceAdd, Nat.reduceLeDiff, Nat.reduceEqDiff, Nat.reduceSub, Nat.zero_le, Nat.add_left_cancel_iff, true_and, and_true, if_true, if_false, reduceIte, ne_eq, not_false_eq_true, Nat.add_eq_left, Nat.left_eq_add, kI_sI, kL_sI, kR_sI, kK_sI, kI_sL, kL_sL, kR_sL, kK_sL, kI_sIA, kL_sIA, kR_sIA, kK_sIA, kI_sLA, kL_sLA, kR_sLA, kK_sLA, wK_35 w, wR_35_0 w, wR_35_1 w, wR_35_2 w, wR_35_3 w, wR_35_4 w, wK_36 w, wK_37 w, wK_38 w, wK_39 w, wK_40 w]
  try simp (disch := omega) only [a_0, a_1, a_L0, a_L1, a_lt, a_le, a_eq, a_sub, a_addn, nI_add, pk_mul, a_in, nI_clamp, a_eqn, a_eqn', a_eqn2, a_n12, eq_self, a_ltn, a_ltn', a_len, a_len', a_shl1, z_shr, fa_and, fa_or, a_tb, a_tb0, a_b0, a_b1, a_bi, a_lc0, a_lcle, a_lcge, a_lclt, a_lcgt, upd_at, upd_ne, updL_at, updL_ne, Nat.reduceAdd, Nat.reduceSub, Nat.reduceMul, Nat.reduceLT, Nat.reduceLeDiff, Nat.reduceEqDiff, true_and, and_true, if_true, if_false, reduceIte, ne_eq, not_false_eq_true, not_true_eq_false, true_implies, false_implies, Nat.not_lt, Nat.not_le, Nat.le_refl, Nat.add_sub_cancel, Nat.lt_irrefl, Nat.not_lt_zero, Nat.zero_le, Nat.testBit_shiftRight, Nat.add_zero, reduceCtorEq, true_or, or_true, or_false, false_or, Bool.true_eq_false, Bool.false_eq_true, Bool.not_eq_false, Bool.not_eq_true, Decidable.not_not, e]
  first | exact H | exact ⟨False.elim, H⟩
theorem c_Tright {i : Nat} (w : kW h) (K : TB h P C) (hC : COK C) (hi : i < C.length) (H : Q (.inl (some (.long (lN (cd (gC C i).2))))) h) : kCalls r yX8_right [.ref 35, .int (nI i)] h Q := by
  have := hC.1
  have e := (K.2.2.2 i hi).2
  refine sX8_right _ _ ?_
  refine eX8_right_0 ?_
  simp only [ks_nop, ks_aload_0, ks_iload_1, ks_get0, ks_get3, ks_get1, ks_get2, ks_lald, ks_lret, kldi_0, kldl_0, klda_0, kldz_0, kst1_0, kst2_0, kldi_1, kldl_1, klda_1, kldz_1, kst1_1n, kst2_1n, kst1_1i, kst2_1i, kst1_1r, kst2_1r, kst1_1z, kst2_1z, kst1_1l, kst2_1l, kcat_n, kcat_i, kcat_r, kcat_z, kcat_l, jX8_right_0, bX8_right_0, Nat.reduceAdd, Nat.reduceLeDiff, Nat.reduceEqDiff, Nat.reduceSub, Nat.zero_le, Nat.add_left_cancel_iff, true_and, and_true, if_true, if_false, reduceIte, ne_eq, not_false_eq_true, Nat.add_eq_left, Nat.left_eq_add, kI_sI, kL_sI, kR_sI, kK_sI, kI_sL, kL_sL, kR_sL, kK_sL, kI_sIA, kL_sIA, kR_sIA, kK_sIA, kI_sLA, kL_sLA, kR_sLA, kK_sLA, wK_35 w, wR_35_0 w, wR_35_1 w, wR_35_2 w, wR_35_3 w, wR_35_4 w, wK_36 w, wK_37 w, wK_38 w, wK_39 w, wK_40 w]
  try simp (disch := omega) only [a_0, a_1, a_L0, a_L1, a_lt, a_le, a_eq, a_sub, a_addn, nI_add, pk_mul, a_in, nI_clamp, a_eqn, a_eqn', a_eqn2, a_n12, eq_self, a_ltn, a_ltn', a_len, a_len', a_shl1, z_shr, fa_and, fa_or, a_tb, a_tb0, a_b0, a_b1, a_bi, a_lc0, a_lcle, a_lcge, a_lclt, a_lcgt, upd_at, upd_ne, updL_at, updL_ne, Nat.reduceAdd, Nat.reduceSub, Nat.reduceMul, Nat.reduceLT, Nat.reduceLeDiff, Nat.reduceEqDiff, true_and, and_true, if_true, if_false, reduceIte, ne_eq, not_false_eq_true, not_true_eq_false, true_implies, false_implies, Nat.not_lt, Nat.not_le, Nat.le_refl, Nat.add_sub_cancel, Nat.lt_irrefl, Nat.not_lt_zero, Nat.zero_le, Nat.testBit_shiftRight, Nat.add_zero, reduceCtorEq, true_or, or_true, or_false, false_or, Bool.true_eq_false, Bool.false_eq_true, Bool.not_eq_false, Bool.not_eq_true, Decidable.not_not, e]
  first | exact H | exact ⟨False.elim, H⟩
theorem c_X1names (w : kW h) (hg : isG g) (G : GQ h g B nn) (H : Q (.inl (some (.int (nI nn)))) h) : kCalls r yX1_names [.ref g] h Q := by
  have e := G.1.1
  refine sX1_names _ ?_
  refine eX1_names_0 ?_
  simp only [ks_nop, ks_aload_0, ks_get0, ks_get3, ks_get1, ks_get2, ks_iret0, kldi_0, kldl_0, klda_0, kldz_0, kst1_0, kst2_0, kcat_n, kcat_i, kcat_r, kcat_z, kcat_l, jX1_names_0, bX1_names_0, Nat.reduceAdd, Nat.reduceLeDiff, Nat.reduceEqDiff, Nat.reduceSub, Nat.zero_le, Nat.add_left_cancel_iff, true_and, and_true, if_true, if_false, reduceIte, ne_eq, not_false_eq_true, Nat.add_eq_left, Nat.left_eq_add, kI_sI, kL_sI, kR_sI, kK_sI, kI_sL, kL_sL, kR_sL, kK_sL, kI_sIA, kL_sIA, kR_sIA, kK_sIA, kI_sLA, kL_sLA, kR_sLA, kK_sLA, gK w hg, gR_0 w hg, gK_1 w hg, gR_1 w hg, gK_2 w hg, gR_2 w hg, gK_3 w hg, gR_3 w hg, gK_4 w hg, gR_4 w hg, gK_5 w hg, gR_11 w hg, gK_6 w hg, gR_12 w hg, gK_7 w hg, gR_13 w hg, gK_8 w hg, gR_14 w hg, gK_9 w hg, gR_15 w hg, gK_10 w hg, gR_16 w hg, gK_11 w hg, e]
  first | exact H | exact ⟨False.elim, H⟩
theorem c_X1bodies (w : kW h) (hg : isG g) (G : GQ h g B nn) (H : Q (.inl (some (.int (nI B.length)))) h) : kCalls r yX1_bodies [.ref g] h Q := by
  have e := G.1.2.1
  refine sX1_bodies _ ?_
  refine eX1_bodies_0 ?_
  simp only [ks_nop, ks_aload_0, ks_get0, ks_get3, ks_get1, ks_get2, ks_iret0, kldi_0, kldl_0, klda_0, kldz_0, kst1_0, kst2_0, kcat_n, kcat_i, kcat_r, kcat_z, kcat_l, jX1_bodies_0, bX1_bodies_0, Nat.reduceAdd, Nat.reduceLeDiff, Nat.reduceEqDiff, Nat.reduceSub, Nat.zero_le, Nat.add_left_cancel_iff, true_and, and_true, if_true, if_false, reduceIte, ne_eq, not_false_eq_true, Nat.add_eq_left, Nat.left_eq_add, kI_sI, kL_sI, kR_sI, kK_sI, kI_sL, kL_sL, kR_sL, kK_sL, kI_sIA, kL_sIA, kR_sIA, kK_sIA, kI_sLA, kL_sLA, kR_sLA, kK_sLA, gK w hg, gR_0 w hg, gK_1 w hg, gR_1 w hg, gK_2 w hg, gR_2 w hg, gK_3 w hg, gR_3 w hg, gK_4 w hg, gR_4 w hg, gK_5 w hg, gR_11 w hg, gK_6 w hg, gR_12 w hg, gK_7 w hg, gR_13 w hg, gK_8 w hg, gR_14 w hg, gK_9 w hg, gR_15 w hg, gK_10 w hg, gR_16 w hg, gK_11 w hg, e]
  first | exact H | exact ⟨False.elim, H⟩
theorem c_X1signs (w : kW h) (hg : isG g) (G : GQ h g B nn) (H : Q (.inl (some (.int (nI (sgB B))))) h) : kCalls r yX1_signs [.ref g] h Q := by
  have e := G.2.2.1
  refine sX1_signs _ ?_
  refine eX1_signs_0 ?_
  simp only [ks_nop, ks_aload_0, ks_get0, ks_get3, ks_get1, ks_get2, ks_iret0, kldi_0, kldl_0, klda_0, kldz_0, kst1_0, kst2_0, kcat_n, kcat_i, kcat_r, kcat_z, kcat_l, jX1_signs_0, bX1_signs_0, Nat.reduceAdd, Nat.reduceLeDiff, Nat.reduceEqDiff, Nat.reduceSub, Nat.zero_le, Nat.add_left_cancel_iff, true_and, and_true, if_true, if_false, reduceIte, ne_eq, not_false_eq_true, Nat.add_eq_left, Nat.left_eq_add, kI_sI, kL_sI, kR_sI, kK_sI, kI_sL, kL_sL, kR_sL, kK_sL, kI_sIA, kL_sIA, kR_sIA, kK_sIA, kI_sLA, kL_sLA, kR_sLA, kK_sLA, gK w hg, gR_0 w hg, gK_1 w hg, gR_1 w hg, gK_2 w hg, gR_2 w hg, gK_3 w hg, gR_3 w hg, gK_4 w hg, gR_4 w hg, gK_5 w hg, gR_11 w hg, gK_6 w hg, gR_12 w hg, gK_7 w hg, gR_13 w hg, gK_8 w hg, gR_14 w hg, gK_9 w hg, gR_15 w hg, gK_10 w hg, gR_16 w hg, gK_11 w hg, e]
  first | exact H | exact ⟨False.elim, H⟩
theorem c_X1place {p : Int32} (w : kW h) (hg : isG g) (e : kI h g 9 = p) (H : Q (.inl (some (.int p))) h) : kCalls r yX1_place [.ref g] h Q := by
  refine sX1_place _ ?_
  refine eX1_place_0 ?_
  simp only [ks_nop, ks_aload_0, ks_get0, ks_get3, ks_get1, ks_get2, ks_iret0, kldi_0, kldl_0, klda_0, kldz_0, kst1_0, kst2_0, kcat_n, kcat_i, kcat_r, kcat_z, kcat_l, jX1_place_0, bX1_place_0, Nat.reduceAdd, Nat.reduceLeDiff, Nat.reduceEqDiff, Nat.reduceSub, Nat.zero_le, Nat.add_left_cancel_iff, true_and, and_true, if_true, if_false, reduceIte, ne_eq, not_false_eq_true, Nat.add_eq_left, Nat.left_eq_add, kI_sI, kL_sI, kR_sI, kK_sI, kI_sL, kL_sL, kR_sL, kK_sL, kI_sIA, kL_sIA, kR_sIA, kK_sIA, kI_sLA, kL_sLA, kR_sLA, kK_sLA, gK w hg, gR_0 w hg, gK_1 w hg, gR_1 w hg, gK_2 w hg, gR_2 w hg, gK_3 w hg, gR_3 w hg, gK_4 w hg, gR_4 w hg, gK_5 w hg, gR_11 w hg, gK_6 w hg, gR_12 w hg, gK_7 w hg, gR_13 w hg, gK_8 w hg, gR_14 w hg, gK_9 w hg, gR_15 w hg, gK_10 w hg, gR_16 w hg, gK_11 w hg, e]
  first | exact H | exact ⟨False.elim, H⟩
theorem c_X4foundRow (w : kW h) (H : Q (.inl (some (.long (kL h 62 4)))) h) : kCalls r yX4_foundRow [.ref 62] h Q := by
  refine sX4_foundRow _ ?_
  refine eX4_foundRow_0 ?_
  simp only [ks_nop, ks_aload_0, ks_get0, ks_get3, ks_get1, ks_get2, ks_lret, kldi_0, kldl_0, klda_0, kldz_0, kst1_0, kst2_0, kcat_n, kcat_i, kcat_r, kcat_z, kcat_l, jX4_foundRow_0, bX4_foundRow_0, Nat.reduceAdd, Nat.reduceLeDiff, Nat.reduceEqDiff, Nat.reduceSub, Nat.zero_le, Nat.add_left_cancel_iff, true_and, and_true, if_true, if_false, reduceIte, ne_eq, not_false_eq_true, Nat.add_eq_left, Nat.left_eq_add, kI_sI, kL_sI, kR_sI, kK_sI, kI_sL, kL_sL, kR_sL, kK_sL, kI_sIA, kL_sIA, kR_sIA, kK_sIA, kI_sLA, kL_sLA, kR_sLA, kK_sLA, wK_62 w, wR_62_0 w, wR_62_1 w, wR_62_2 w, wR_62_3 w, wR_62_10 w, wK_63 w]
  first | exact H | exact ⟨False.elim, H⟩
theorem c_X4row (w : kW h) (H : Q (.inl (some (.long (kL h 62 6)))) h) : kCalls r yX4_row [.ref 62] h Q := by
  refine sX4_row _ ?_
  refine eX4_row_0 ?_
  simp only [ks_nop, ks_aload_0, ks_get0, ks_get3, ks_get1, ks_get2, ks_lret, kldi_0, kldl_0, klda_0, kldz_0, kst1_0, kst2_0, kcat_n, kcat_i, kcat_r, kcat_z, kcat_l, jX4_row_0, bX4_row_0, Nat.reduceAdd, Nat.reduceLeDiff, Nat.reduceEqDiff, Nat.reduceSub, Nat.zero_le, Nat.add_left_cancel_iff, true_and, and_true, if_true, if_false, reduceIte, ne_eq, not_false_eq_true, Nat.add_eq_left, Nat.left_eq_add, kI_sI, kL_sI, kR_sI, kK_sI, kI_sL, kL_sL, kR_sL, kK_sL, kI_sIA, kL_sIA, kR_sIA, kK_sIA, kI_sLA, kL_sLA, kR_sLA, kK_sLA, wK_62 w, wR_62_0 w, wR_62_1 w, wR_62_2 w, wR_62_3 w, wR_62_10 w, wK_63 w]
  first | exact H | exact ⟨False.elim, H⟩
theorem c_X4what (w : kW h) (H : Q (.inl (some (.int (kI h 62 7)))) h) : kCalls r yX4_what [.ref 62] h Q := by
  refine sX4_what _ ?_
  refine eX4_what_0 ?_
  simp only [ks_nop, ks_aload_0, ks_get0, ks_get3, ks_get1, ks_get2, ks_iret0, kldi_0, kldl_0, klda_0, kldz_0, kst1_0, kst2_0, kcat_n, kcat_i, kcat_r, kcat_z, kcat_l, jX4_what_0, bX4_what_0, Nat.reduceAdd, Nat.reduceLeDiff, Nat.reduceEqDiff, Nat.reduceSub, Nat.zero_le, Nat.add_left_cancel_iff, true_and, and_true, if_true, if_false, reduceIte, ne_eq, not_false_eq_true, Nat.add_eq_left, Nat.left_eq_add, kI_sI, kL_sI, kR_sI, kK_sI, kI_sL, kL_sL, kR_sL, kK_sL, kI_sIA, kL_sIA, kR_sIA, kK_sIA, kI_sLA, kL_sLA, kR_sLA, kK_sLA, wK_62 w, wR_62_0 w, wR_62_1 w, wR_62_2 w, wR_62_3 w, wR_62_10 w, wK_63 w]
  first | exact H | exact ⟨False.elim, H⟩
theorem c_X4pc (w : kW h) (H : Q (.inl (some (.int (kI h 62 8)))) h) : kCalls r yX4_partsCame [.ref 62] h Q := by
  refine sX4_partsCame _ ?_
  refine eX4_partsCame_0 ?_
  simp only [ks_nop, ks_aload_0, ks_get0, ks_get3, ks_get1, ks_get2, ks_iret0, kldi_0, kldl_0, klda_0, kldz_0, kst1_0, kst2_0, kcat_n, kcat_i, kcat_r, kcat_z, kcat_l, jX4_partsCame_0, bX4_partsCame_0, Nat.reduceAdd, Nat.reduceLeDiff, Nat.reduceEqDiff, Nat.reduceSub, Nat.zero_le, Nat.add_left_cancel_iff, true_and, and_true, if_true, if_false, reduceIte, ne_eq, not_false_eq_true, Nat.add_eq_left, Nat.left_eq_add, kI_sI, kL_sI, kR_sI, kK_sI, kI_sL, kL_sL, kR_sL, kK_sL, kI_sIA, kL_sIA, kR_sIA, kK_sIA, kI_sLA, kL_sLA, kR_sLA, kK_sLA, wK_62 w, wR_62_0 w, wR_62_1 w, wR_62_2 w, wR_62_3 w, wR_62_10 w, wK_63 w]
  first | exact H | exact ⟨False.elim, H⟩
theorem c_X4cc (w : kW h) (H : Q (.inl (some (.int (kI h 62 9)))) h) : kCalls r yX4_contextsCame [.ref 62] h Q := by
  refine sX4_contextsCame _ ?_
  refine eX4_contextsCame_0 ?_
  simp only [ks_nop, ks_aload_0, ks_get0, ks_get3, ks_get1, ks_get2, ks_iret0, kldi_0, kldl_0, klda_0, kldz_0, kst1_0, kst2_0, kcat_n, kcat_i, kcat_r, kcat_z, kcat_l, jX4_contextsCame_0, bX4_contextsCame_0, Nat.reduceAdd, Nat.reduceLeDiff, Nat.reduceEqDiff, Nat.reduceSub, Nat.zero_le, Nat.add_left_cancel_iff, true_and, and_true, if_true, if_false, reduceIte, ne_eq, not_false_eq_true, Nat.add_eq_left, Nat.left_eq_add, kI_sI, kL_sI, kR_sI, kK_sI, kI_sL, kL_sL, kR_sL, kK_sL, kI_sIA, kL_sIA, kR_sIA, kK_sIA, kI_sLA, kL_sLA, kR_sLA, kK_sLA, wK_62 w, wR_62_0 w, wR_62_1 w, wR_62_2 w, wR_62_3 w, wR_62_10 w, wK_63 w]
  first | exact H | exact ⟨False.elim, H⟩
theorem c_X4lacked (w : kW h) (H : Q (.inl (some (.int (kI h 62 11)))) h) : kCalls r yX4_lacked [.ref 62] h Q := by
  refine sX4_lacked _ ?_
  refine eX4_lacked_0 ?_
  simp only [ks_nop, ks_aload_0, ks_get0, ks_get3, ks_get1, ks_get2, ks_iret0, kldi_0, kldl_0, klda_0, kldz_0, kst1_0, kst2_0, kcat_n, kcat_i, kcat_r, kcat_z, kcat_l, jX4_lacked_0, bX4_lacked_0, Nat.reduceAdd, Nat.reduceLeDiff, Nat.reduceEqDiff, Nat.reduceSub, Nat.zero_le, Nat.add_left_cancel_iff, true_and, and_true, if_true, if_false, reduceIte, ne_eq, not_false_eq_true, Nat.add_eq_left, Nat.left_eq_add, kI_sI, kL_sI, kR_sI, kK_sI, kI_sL, kL_sL, kR_sL, kK_sL, kI_sIA, kL_sIA, kR_sIA, kK_sIA, kI_sLA, kL_sLA, kR_sLA, kK_sLA, wK_62 w, wR_62_0 w, wR_62_1 w, wR_62_2 w, wR_62_3 w, wR_62_10 w, wK_63 w]
  first | exact H | exact ⟨False.elim, H⟩
theorem c_X4wrong (w : kW h) (H : Q (.inl (some (.int (kI h 62 12)))) h) : kCalls r yX4_wrong [.ref 62] h Q := by
  refine sX4_wrong _ ?_
  refine eX4_wrong_0 ?_
  simp only [ks_nop, ks_aload_0, ks_get0, ks_get3, ks_get1, ks_get2, ks_iret0, kldi_0, kldl_0, klda_0, kldz_0, kst1_0, kst2_0, kcat_n, kcat_i, kcat_r, kcat_z, kcat_l, jX4_wrong_0, bX4_wrong_0, Nat.reduceAdd, Nat.reduceLeDiff, Nat.reduceEqDiff, Nat.reduceSub, Nat.zero_le, Nat.add_left_cancel_iff, true_and, and_true, if_true, if_false, reduceIte, ne_eq, not_false_eq_true, Nat.add_eq_left, Nat.left_eq_add, kI_sI, kL_sI, kR_sI, kK_sI, kI_sL, kL_sL, kR_sL, kK_sL, kI_sIA, kL_sIA, kR_sIA, kK_sIA, kI_sLA, kL_sLA, kR_sLA, kK_sLA, wK_62 w, wR_62_0 w, wR_62_1 w, wR_62_2 w, wR_62_3 w, wR_62_10 w, wK_63 w]
  first | exact H | exact ⟨False.elim, H⟩
theorem c_X4refuted {i : Nat} (w : kW h) (hi : i < 3) (H : Q (.inl (some (.int (kI h 63 i)))) h) : kCalls r yX4_refuted [.ref 62, .int (nI i)] h Q := by
  refine sX4_refuted _ _ ?_
  refine eX4_refuted_0 ?_
  simp only [ks_nop, ks_aload_0, ks_iload_1, ks_get0, ks_get3, ks_get1, ks_get2, ks_iald, ks_sld, ks_iret0, kldi_0, kldl_0, klda_0, kldz_0, kst1_0, kst2_0, kldi_1, kldl_1, klda_1, kldz_1, kst1_1n, kst2_1n, kst1_1i, kst2_1i, kst1_1r, kst2_1r, kst1_1z, kst2_1z, kst1_1l, kst2_1l, kcat_n, kcat_i, kcat_r, kcat_z, kcat_l, jX4_refuted_0, bX4_refuted_0, Nat.reduceAdd, Nat.reduceLeDiff, Nat.reduceEqDiff, Nat.reduceSub, Nat.zero_le, Nat.add_left_cancel_iff, true_and, and_true, if_true, if_false, reduceIte, ne_eq, not_false_eq_true, Nat.add_eq_left, Nat.left_eq_add, kI_sI, kL_sI, kR_sI, kK_sI, kI_sL, kL_sL, kR_sL, kK_sL, kI_sIA, kL_sIA, kR_sIA, kK_sIA, kI_sLA, kL_sLA, kR_sLA, kK_sLA, wK_62 w, wR_62_0 w, wR_62_1 w, wR_62_2 w, wR_62_3 w, wR_62_10 w, wK_63 w]
  try simp (disch := omega) only [a_0, a_1, a_L0, a_L1, a_lt, a_le, a_eq, a_sub, a_addn, nI_add, pk_mul, a_in, nI_clamp, a_eqn, a_eqn', a_eqn2, a_n12, eq_self, a_ltn, a_ltn', a_len, a_len', a_shl1, z_shr, fa_and, fa_or, a_tb, a_tb0, a_b0, a_b1, a_bi, a_lc0, a_lcle, a_lcge, a_lclt, a_lcgt, upd_at, upd_ne, updL_at, updL_ne, Nat.reduceAdd, Nat.reduceSub, Nat.reduceMul, Nat.reduceLT, Nat.reduceLeDiff, Nat.reduceEqDiff, true_and, and_true, if_true, if_false, reduceIte, ne_eq, not_false_eq_true, not_true_eq_false, true_implies, false_implies, Nat.not_lt, Nat.not_le, Nat.le_refl, Nat.add_sub_cancel, Nat.lt_irrefl, Nat.not_lt_zero, Nat.zero_le, Nat.testBit_shiftRight, Nat.add_zero, reduceCtorEq, true_or, or_true, or_false, false_or, Bool.true_eq_false, Bool.false_eq_true, Bool.not_eq_false, Bool.not_eq_true, Decidable.not_not]
  first | exact H | exact ⟨False.elim, H⟩
theorem en3_dec {x i j : Nat} (hx : x < 16) (hi : i < 32) (hj : j < 32) : en3 x i j >>> 10 = x ∧ en3 x i j >>> 5 &&& 31 = i ∧ en3 x i j &&& 31 = j ∧ en3 x i j < 2 ^ 14 := by
  have m31 : ∀ y : Nat, y &&& 31 = y % 32 := fun y => Nat.and_two_pow_sub_one_eq_mod y 5
  unfold en3
  refine ⟨?_, ?_, ?_, by omega⟩
  · rw [Nat.shiftRight_eq_div_pow]; omega
  · rw [m31, Nat.shiftRight_eq_div_pow]; omega
  · rw [m31]; omega
end CG

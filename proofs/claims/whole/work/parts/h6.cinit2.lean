section CI0
variable {r : Nat} {h h' : KH} {Q : KO → KH → Prop}
theorem c_X11init (hr : 14 ≤ r) (ag : agr (fun x => x ≠ 0) h G1) (H : ∀ hp h', agr (fun x => x ≠ 0) hp GZ → Fr [31, 32, 34, 35, 39, 40, 41, 42, 43, 44, 45, 46, 47, 48, 49, 50, 55, 62, 63] [28, 29, 30, 33, 36, 37, 38, 62] hp h' → CK h' 2 [] 0 (pS0 []) cS0 (aS0 []) → CS h' 2 [] (pS0 []) cS0 58 59 60 61 0 → CLo h' none 0 0 → CT h' [] → Q (.inl none) h') : kCalls r yX11_init [.ref 1] h Q := by
  have r2 : 2 ≤ r := by omega
  have N0 : kN h = 1 := agr_N ag (by decide +kernel)
  have K0 : kK h 1 = (0, 11) := agr_K ag (by omega) (by decide +kernel)
  refine sX11_init _ ?_
  refine eX11_init_0 ?_
  simp only [ks_nop, ks_aload_0, ks_iconst, ks_dup_i, ks_dup_r, ks_get0, ks_get3, ks_get1, ks_get2, ks_put0, ks_put1, ks_put2, ks_put3, ks_new, ks_inv0, ks_inv1, ks_inv2, ks_inv4, ks_inv3, ks_inv5, ks_inv6, ks_inv7, ks_vret, kldi_0, kldl_0, klda_0, kldz_0, kst1_0, kst2_0, kpr_r, kcat_n, kcat_i, kcat_r, kcat_z, kcat_l, kargs_0, kargs_s, kret_v, kret_n, kret_x, jX11_init_0, bX11_init_0, Nat.reduceAdd, Nat.reduceLeDiff, Nat.reduceEqDiff, Nat.reduceSub, Nat.zero_le, Nat.add_left_cancel_iff, true_and, and_true, if_true, if_false, reduceIte, ne_eq, not_false_eq_true, Nat.add_eq_left, Nat.left_eq_add, kN_sR, kN_sI, kN_sL, kN_new, kK_sR, kK_sI, kK_sL, kK_new, kR_q, kR_new, kR_sI, N0, K0, r2]
  try simp (disch := omega) only [a_0, a_1, a_L0, a_L1, a_lt, a_le, a_eq, a_sub, a_addn, nI_add, pk_mul, a_in, nI_clamp, a_eqn, a_eqn', a_eqn2, a_n12, eq_self, a_ltn, a_ltn', a_len, a_len', a_shl1, z_shr, fa_and, fa_or, a_tb, a_tb0, a_b0, a_b1, a_bi, a_lc0, a_lcle, a_lcge, a_lclt, a_lcgt, upd_at, upd_ne, updL_at, updL_ne, Nat.reduceAdd, Nat.reduceSub, Nat.reduceMul, Nat.reduceLT, Nat.reduceLeDiff, Nat.reduceEqDiff, true_and, and_true, if_true, if_false, reduceIte, ne_eq, not_false_eq_true, not_true_eq_false, true_implies, false_implies, Nat.not_lt, Nat.not_le, Nat.le_refl, Nat.add_sub_cancel, Nat.lt_irrefl, Nat.not_lt_zero, Nat.zero_le, Nat.testBit_shiftRight, Nat.add_zero, reduceCtorEq, true_or, or_true, or_false, false_or, Bool.true_eq_false, Bool.false_eq_true, Bool.not_eq_false, Bool.not_eq_true, Decidable.not_not, kN_sR, kN_sI, kN_sL, kN_new, kK_sR, kK_sI, kK_sL, kK_new, kR_q, kR_new, kR_sI, N0, K0, r2]
  refine ci_2 (by omega) (h := knew h (0, 1) 17) (by simp only [kN_sR, kN_sI, kN_new, N0]) (by simp only [kK_new, kN_sR, kN_sI, N0, Nat.reduceAdd, if_true]) ?_
  have ag1 : agr (fun x => x ≠ 0) (in_2 (knew h (0, 1) 17)) G13 := (agr_sR (agr_knl rfl (agr_sR (agr_knl rfl (agr_sR (agr_knl rfl (agr_sR (agr_knl rfl (agr_sR (agr_knl rfl (agr_sR (agr_knl rfl (agr_sL (agr_sI (agr_sI (agr_sI (agr_sI (agr_sI (agr_sR (agr_knl rfl (agr_sR (agr_knl rfl (agr_sR (agr_knl rfl (agr_sR (agr_knl rfl (agr_sR (agr_knl rfl (agr_knl rfl ag)))))))))))))))))))))))))))))
  generalize in_2 (knew h (0, 1) 17) = h1 at ag1 ⊢
  have N1 : kN h1 = 13 := agr_N ag1 (by decide +kernel)
  have K1 : kK h1 1 = (0, 11) := agr_K ag1 (by omega) (by decide +kernel)
  sorry
end CI0

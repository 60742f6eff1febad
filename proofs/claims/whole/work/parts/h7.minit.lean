/-! the reference's constructor -/
section CI0
variable {r : Nat} {h h' : KH} {Q : KO → KH → Prop}
theorem ag_66 (ag : agr (fun x => 66 ≤ x) h G66) : agr (fun x => 66 ≤ x) (in_66 h) G104 := (agr_sR (agr_knl rfl (agr_sR (agr_knl rfl (agr_sR (agr_knl rfl (agr_sR (agr_knl rfl (agr_sR (agr_knl rfl (agr_sR (agr_knl rfl (agr_sR (agr_knl rfl (agr_sR (agr_knl rfl (agr_sR (agr_knl rfl (agr_sR (agr_knl rfl (agr_sR (agr_knl rfl (agr_sR (agr_knl rfl (agr_sR (agr_knl rfl (agr_sR (agr_knl rfl (agr_sR (agr_knl rfl (agr_sR (agr_knl rfl (agr_sR (agr_knl rfl (agr_sR (agr_knl rfl (agr_sR (agr_knl rfl (agr_sR (agr_knl rfl (agr_sR (agr_knl rfl (agr_sR (agr_knl rfl (agr_sR (agr_knl rfl (agr_sR (agr_knl rfl (agr_sR (agr_knl rfl (agr_sR (agr_knl rfl (agr_sR (agr_knl rfl (agr_sR (agr_knl rfl (agr_sR (agr_knl rfl (agr_sI (agr_sR (agr_knl rfl (agr_sR (agr_knl rfl (agr_sR (agr_knl rfl (agr_sR (agr_knl rfl (agr_sR (agr_knl rfl (agr_sR (agr_knl rfl (agr_sR (agr_knl rfl (agr_sR (agr_knl rfl (agr_sR (agr_knl rfl ag)))))))))))))))))))))))))))))))))))))))))))))))))))))))))))))))))))))))))))))
theorem g_RBs (ag : agr (fun x => 66 ≤ x) h G104) : RBs h [] (-nI 1) [] 0 [] := by
  have e : ∀ x, 66 ≤ x → kI h x = kI G104 x := fun x hx => (ag.2 x hx).1
  unfold RBs MS MB ML MTo tpA MSd
  rw [sgl_nil, e 66 (by omega), e 78 (by omega), e 79 (by omega)]
  have e1 := (by decide +kernel : ∀ l, l < 7 → 1 ≤ l → kI G104 78 l = nI (fFr ([] : List Nat).length l) ∧ kI G104 79 l = nI (([] : List Nat).length ^ l))
  refine ⟨⟨⟨by decide +kernel, fun i hi => absurd hi (by simp)⟩, ⟨by decide +kernel, by decide +kernel, fun b hb => absurd hb (by simp)⟩, by decide +kernel⟩, ⟨fun l h1 h2 => e1 l (by omega) h1, fun l v h1 h2 h3 => ?_⟩, ⟨by decide +kernel, fun i hi => absurd hi (by simp)⟩, by decide +kernel, by decide +kernel, by decide +kernel, fun i hi => absurd hi (by simp)⟩
  rw [show ([] : List Nat).length = 0 from rfl, Nat.zero_pow (by omega)] at h3
  omega
set_option maxRecDepth 100000 in
theorem c_X12init (hr : 13 ≤ r) (ag : agr (fun x => 66 ≤ x) h G66) (H : ∀ h', RI h' [] (-nI 1) [] 0 (pS0 []) cS0 (aS0 []) none 0 0 [] [] → FRf (in_66 h) h' → Q (.inl none) h') : kCalls r yX12_init [.ref 66] h Q := by
  have r2 : 2 ≤ r := by omega
  have hN : kN h = 66 := agr_N ag (by decide +kernel)
  have hK : kK h 66 = (0, 12) := agr_K ag (by omega) (by decide +kernel)
  have agI := ag_66 ag
  have w : kW (in_66 h) := agr_W agI G104_W
  have cb : ∀ r', 10 ≤ r' → ∀ Q', (∀ h', RI h' [] (-nI 1) [] 0 (pS0 []) cS0 (aS0 []) none 0 0 [] [] → FRf (in_66 h) h' → Q' (.inl none) h') → kCalls r' yX12_begins [.ref 66] (in_66 h) Q' := fun r' h1 Q' h2 => c_begins h1 w bok_nil (g_RBs agI) (fun h3 K3 f3 _ => h2 h3 K3 f3)
  refine sX12_init _ ?_
  refine eX12_init_0 ?_
  simp only [ks_nop, ks_aload_0, ks_iconst, ks_bipush, ks_sipush, ks_put0, ks_put1, ks_put2, ks_put3, ks_newa, ks_inv0, ks_inv1, ks_inv2, ks_inv4, ks_inv3, ks_inv5, ks_inv6, ks_inv7, ks_inv8, ks_vret, kldi_0, kldl_0, klda_0, kldz_0, kst1_0, kst2_0, kpr_r, kcat_n, kcat_i, kcat_r, kcat_z, kcat_l, kargs_0, kargs_s, kret_v, kret_n, kret_x, zl_4, zl_6, zl_8, zl_12, zl_16, zl_24, zl_40, zl_60, zl_64, zl_96, zl_144, zl_192, zl_400, zl_441, zl_3400, zl_5292, zl_5500, zl_6400, zl_8192, jX12_init_0, bX12_init_0, Nat.reduceAdd, Nat.reduceLeDiff, Nat.reduceEqDiff, Nat.reduceSub, Nat.zero_le, Nat.add_left_cancel_iff, true_and, and_true, if_true, if_false, reduceIte, ne_eq, not_false_eq_true, Nat.add_eq_left, Nat.left_eq_add, kN_sR, kN_sI, kN_sL, kN_new, kK_sR, kK_sI, kK_sL, kK_new, hN, hK]
  try simp (disch := omega) only [a_0, a_1, a_L0, a_L1, a_lt, a_le, a_eq, a_sub, a_addn, nI_add, pk_mul, a_in, nI_clamp, a_eqn, a_eqn', a_eqn2, a_n12, eq_self, a_ltn, a_ltn', a_len, a_len', a_shl1, z_shr, fa_and, fa_or, a_tb, a_tb0, a_b0, a_b1, a_bi, a_lc0, a_lcle, a_lcge, a_lclt, a_lcgt, upd_at, upd_ne, updL_at, updL_ne, Nat.reduceAdd, Nat.reduceSub, Nat.reduceMul, Nat.reduceLT, Nat.reduceLeDiff, Nat.reduceEqDiff, true_and, and_true, if_true, if_false, reduceIte, ne_eq, not_false_eq_true, not_true_eq_false, true_implies, false_implies, Nat.not_lt, Nat.not_le, Nat.le_refl, Nat.add_sub_cancel, Nat.lt_irrefl, Nat.not_lt_zero, Nat.zero_le, Nat.testBit_shiftRight, Nat.add_zero, reduceCtorEq, true_or, or_true, or_false, false_or, Bool.true_eq_false, Bool.false_eq_true, Bool.not_eq_false, Bool.not_eq_true, Decidable.not_not, kN_sR, kN_sI, kN_sL, kN_new, kK_sR, kK_sI, kK_sL, kK_new, hN, hK]
  refine ⟨r2, r2, ?_⟩
  refine cb _ (by omega) _ (fun h3 K3 f3 => ?_)
  simp only [ks_nop, ks_aload_0, ks_iconst, ks_bipush, ks_sipush, ks_put0, ks_put1, ks_put2, ks_put3, ks_newa, ks_inv0, ks_inv1, ks_inv2, ks_inv4, ks_inv3, ks_inv5, ks_inv6, ks_inv7, ks_inv8, ks_vret, kldi_0, kldl_0, klda_0, kldz_0, kst1_0, kst2_0, kpr_r, kcat_n, kcat_i, kcat_r, kcat_z, kcat_l, kargs_0, kargs_s, kret_v, kret_n, kret_x, zl_4, zl_6, zl_8, zl_12, zl_16, zl_24, zl_40, zl_60, zl_64, zl_96, zl_144, zl_192, zl_400, zl_441, zl_3400, zl_5292, zl_5500, zl_6400, zl_8192, jX12_init_0, bX12_init_0, Nat.reduceAdd, Nat.reduceLeDiff, Nat.reduceEqDiff, Nat.reduceSub, Nat.zero_le, Nat.add_left_cancel_iff, true_and, and_true, if_true, if_false, reduceIte, ne_eq, not_false_eq_true, Nat.add_eq_left, Nat.left_eq_add, kI_sI, kL_sI, kR_sI, kK_sI, kI_sL, kL_sL, kR_sL, kK_sL, kI_sIA, kL_sIA, kR_sIA, kK_sIA, kI_sLA, kL_sLA, kR_sLA, kK_sLA]
  exact H h3 K3 f3
end CI0

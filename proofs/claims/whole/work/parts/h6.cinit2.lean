section CI0
variable {r : Nat} {h h' : KH} {Q : KO → KH → Prop}
theorem c_X11init {L : Nat} {xs : Nat → Int32} (hr : 14 ≤ r) (ag : agr (fun x => x ≠ 0) h G1) (az0 : az L xs h) (H : ∀ hp h', agr (fun x => x ≠ 0) hp GZ → az L xs hp → Fr [31, 32, 34, 35, 39, 40, 41, 42, 43, 44, 45, 46, 47, 48, 49, 50, 55, 62, 63] [28, 29, 30, 33, 36, 37, 38, 62] hp h' → CK h' 2 [] 0 (pS0 []) cS0 (aS0 []) → CS h' 2 [] (pS0 []) cS0 58 59 60 61 0 → CLo h' none 0 0 → CT h' [] → Q (.inl none) h') : kCalls r yX11_init [.ref 1] h Q := by
  have r2 : 2 ≤ r := by omega
  have N0 : kN h = 1 := agr_N ag (by decide +kernel)
  have K0 : kK h 1 = (0, 11) := agr_K ag (by omega) (by decide +kernel)
  refine sX11_init _ ?_
  refine eX11_init_0 ?_
  have L0 : kN h + 1 = 2 := by rw [N0]
  have E0 : kK (knew h (0, 1) 17) 1 = (0, 11) := by rw [kK_new, N0, if_neg (by omega), K0]
  have B0 : kK (knew h (0, 1) 17) 2 = (0, 1) := by rw [kK_new, N0, if_pos rfl]
  have D0 : kN (knew h (0, 1) 17) = 2 := by rw [kN_new, N0]
  simp only [ks_nop, ks_aload_0, ks_iconst, ks_dup_i, ks_dup_r, ks_get0, ks_get3, ks_get1, ks_get2, ks_put0, ks_put1, ks_put2, ks_put3, ks_new, ks_inv0, ks_inv1, ks_inv2, ks_inv4, ks_inv3, ks_inv5, ks_inv6, ks_inv7, ks_inv8, ks_vret, kldi_0, kldl_0, klda_0, kldz_0, kst1_0, kst2_0, kpr_r, kcat_n, kcat_i, kcat_r, kcat_z, kcat_l, kargs_0, kargs_s, kret_v, kret_n, kret_x, jX11_init_0, bX11_init_0, Nat.reduceAdd, Nat.reduceLeDiff, Nat.reduceEqDiff, Nat.reduceSub, Nat.zero_le, Nat.add_left_cancel_iff, true_and, and_true, if_true, if_false, reduceIte, ne_eq, not_false_eq_true, Nat.add_eq_left, Nat.left_eq_add, K0, L0, E0, B0, r2]
  refine ci_2 (by omega) (h := knew h (0, 1) 17) D0 B0 ?_
  have ag1 : agr (fun x => x ≠ 0) (in_2 (knew h (0, 1) 17)) G13 := (agr_sR (agr_knl rfl (agr_sR (agr_knl rfl (agr_sR (agr_knl rfl (agr_sR (agr_knl rfl (agr_sR (agr_knl rfl (agr_sR (agr_knl rfl (agr_sL (agr_sI (agr_sI (agr_sI (agr_sI (agr_sI (agr_sR (agr_knl rfl (agr_sR (agr_knl rfl (agr_sR (agr_knl rfl (agr_sR (agr_knl rfl (agr_sR (agr_knl rfl (agr_knl rfl ag)))))))))))))))))))))))))))))
  have az1 : az L xs (in_2 (knew h (0, 1) 17)) := (az_sR (az_new (az_sR (az_new (az_sR (az_new (az_sR (az_new (az_sR (az_new (az_sR (az_new (az_sL (az_sI (by omega) (az_sI (by omega) (az_sI (by omega) (az_sI (by omega) (az_sI (by omega) (az_sR (az_new (az_sR (az_new (az_sR (az_new (az_sR (az_new (az_sR (az_new (az_new az0)))))))))))))))))))))))))))))
  generalize in_2 (knew h (0, 1) 17) = h1 at ag1 az1 ⊢
  clear az0
  have N1 : kN h1 = 13 := agr_N ag1 (by decide +kernel)
  have K1 : kK h1 1 = (0, 11) := agr_K ag1 (by omega) (by decide +kernel)
  clear ag N0 K0 L0 E0 B0 D0
  have L1 : kN (sR h1 1 0 2) + 1 = 14 := by rw [kN_sR, N1]
  have E1 : kK (knew (sR h1 1 0 2) (0, 1) 17) 1 = (0, 11) := by rw [kK_new, kN_sR, N1, if_neg (by omega), kK_sR, K1]
  have B1 : kK (knew (sR h1 1 0 2) (0, 1) 17) 14 = (0, 1) := by rw [kK_new, kN_sR, N1, if_pos rfl]
  have D1 : kN (knew (sR h1 1 0 2) (0, 1) 17) = 14 := by rw [kN_new, kN_sR, N1]
  simp only [ks_nop, ks_aload_0, ks_iconst, ks_dup_i, ks_dup_r, ks_get0, ks_get3, ks_get1, ks_get2, ks_put0, ks_put1, ks_put2, ks_put3, ks_new, ks_inv0, ks_inv1, ks_inv2, ks_inv4, ks_inv3, ks_inv5, ks_inv6, ks_inv7, ks_inv8, ks_vret, kldi_0, kldl_0, klda_0, kldz_0, kst1_0, kst2_0, kpr_r, kcat_n, kcat_i, kcat_r, kcat_z, kcat_l, kargs_0, kargs_s, kret_v, kret_n, kret_x, jX11_init_0, bX11_init_0, Nat.reduceAdd, Nat.reduceLeDiff, Nat.reduceEqDiff, Nat.reduceSub, Nat.zero_le, Nat.add_left_cancel_iff, true_and, and_true, if_true, if_false, reduceIte, ne_eq, not_false_eq_true, Nat.add_eq_left, Nat.left_eq_add, K1, L1, E1, B1, r2]
  refine ci_14 (by omega) (h := knew (sR h1 1 0 2) (0, 1) 17) D1 B1 ?_
  have ag2 : agr (fun x => x ≠ 0) (in_14 (knew (sR h1 1 0 2) (0, 1) 17)) G25 := (agr_sR (agr_knl rfl (agr_sR (agr_knl rfl (agr_sR (agr_knl rfl (agr_sR (agr_knl rfl (agr_sR (agr_knl rfl (agr_sR (agr_knl rfl (agr_sL (agr_sI (agr_sI (agr_sI (agr_sI (agr_sI (agr_sR (agr_knl rfl (agr_sR (agr_knl rfl (agr_sR (agr_knl rfl (agr_sR (agr_knl rfl (agr_sR (agr_knl rfl (agr_knl rfl (agr_sR ag1))))))))))))))))))))))))))))))
  have az2 : az L xs (in_14 (knew (sR h1 1 0 2) (0, 1) 17)) := (az_sR (az_new (az_sR (az_new (az_sR (az_new (az_sR (az_new (az_sR (az_new (az_sR (az_new (az_sL (az_sI (by omega) (az_sI (by omega) (az_sI (by omega) (az_sI (by omega) (az_sI (by omega) (az_sR (az_new (az_sR (az_new (az_sR (az_new (az_sR (az_new (az_sR (az_new (az_new (az_sR az1))))))))))))))))))))))))))))))
  generalize in_14 (knew (sR h1 1 0 2) (0, 1) 17) = h2 at ag2 az2 ⊢
  clear az1
  have N2 : kN h2 = 25 := agr_N ag2 (by decide +kernel)
  have K2 : kK h2 1 = (0, 11) := agr_K ag2 (by omega) (by decide +kernel)
  clear ag1 N1 K1 L1 E1 B1 D1
  have L2 : kN (sI (sR h2 1 1 14) 1 2 (-1)) + 1 = 26 := by rw [kN_sI, kN_sR, N2]
  have M2 : kK (sR h2 1 1 14) 1 = (0, 11) := by rw [kK_sR]; exact K2
  have E2 : kK (knew (sI (sR h2 1 1 14) 1 2 (-1)) (0, 9) 2) 1 = (0, 11) := by rw [kK_new, kN_sI, kN_sR, N2, if_neg (by omega), kK_sI, kK_sR, K2]
  have B2 : kK (knew (sI (sR h2 1 1 14) 1 2 (-1)) (0, 9) 2) 26 = (0, 9) := by rw [kK_new, kN_sI, kN_sR, N2, if_pos rfl]
  have D2 : kN (knew (sI (sR h2 1 1 14) 1 2 (-1)) (0, 9) 2) = 26 := by rw [kN_new, kN_sI, kN_sR, N2]
  simp only [ks_nop, ks_aload_0, ks_iconst, ks_dup_i, ks_dup_r, ks_get0, ks_get3, ks_get1, ks_get2, ks_put0, ks_put1, ks_put2, ks_put3, ks_new, ks_inv0, ks_inv1, ks_inv2, ks_inv4, ks_inv3, ks_inv5, ks_inv6, ks_inv7, ks_inv8, ks_vret, kldi_0, kldl_0, klda_0, kldz_0, kst1_0, kst2_0, kpr_r, kcat_n, kcat_i, kcat_r, kcat_z, kcat_l, kargs_0, kargs_s, kret_v, kret_n, kret_x, jX11_init_0, bX11_init_0, Nat.reduceAdd, Nat.reduceLeDiff, Nat.reduceEqDiff, Nat.reduceSub, Nat.zero_le, Nat.add_left_cancel_iff, true_and, and_true, if_true, if_false, reduceIte, ne_eq, not_false_eq_true, Nat.add_eq_left, Nat.left_eq_add, K2, L2, M2, E2, B2, r2]
  refine ci_26 (by omega) (h := knew (sI (sR h2 1 1 14) 1 2 (-1)) (0, 9) 2) D2 B2 ?_
  have ag3 : agr (fun x => x ≠ 0) (in_26 (knew (sI (sR h2 1 1 14) 1 2 (-1)) (0, 9) 2)) G27 := (agr_sI (agr_sR (agr_knl rfl (agr_knl rfl (agr_sI (agr_sR ag2))))))
  have az3 : az L xs (in_26 (knew (sI (sR h2 1 1 14) 1 2 (-1)) (0, 9) 2)) := (az_sI (by omega) (az_sR (az_new (az_new (az_sI (by omega) (az_sR az2))))))
  generalize in_26 (knew (sI (sR h2 1 1 14) 1 2 (-1)) (0, 9) 2) = h3 at ag3 az3 ⊢
  clear az2
  have N3 : kN h3 = 27 := agr_N ag3 (by decide +kernel)
  have K3 : kK h3 1 = (0, 11) := agr_K ag3 (by omega) (by decide +kernel)
  clear ag2 N2 K2 L2 M2 E2 B2 D2
  have L3 : kN (sR h3 1 3 26) + 1 = 28 := by rw [kN_sR, N3]
  have E3 : kK (knew (sR h3 1 3 26) (0, 10) 5) 1 = (0, 11) := by rw [kK_new, kN_sR, N3, if_neg (by omega), kK_sR, K3]
  have B3 : kK (knew (sR h3 1 3 26) (0, 10) 5) 28 = (0, 10) := by rw [kK_new, kN_sR, N3, if_pos rfl]
  have D3 : kN (knew (sR h3 1 3 26) (0, 10) 5) = 28 := by rw [kN_new, kN_sR, N3]
  have R3_0 : kR (knew (sR h3 1 3 26) (0, 10) 5) 1 0 = 2 := by rw [kR_new, kN_sR, N3, if_neg (by omega), kR_q, if_neg (by omega)]; exact agr_R ag3 (by decide +kernel)
  simp only [ks_nop, ks_aload_0, ks_iconst, ks_dup_i, ks_dup_r, ks_get0, ks_get3, ks_get1, ks_get2, ks_put0, ks_put1, ks_put2, ks_put3, ks_new, ks_inv0, ks_inv1, ks_inv2, ks_inv4, ks_inv3, ks_inv5, ks_inv6, ks_inv7, ks_inv8, ks_vret, kldi_0, kldl_0, klda_0, kldz_0, kst1_0, kst2_0, kpr_r, kcat_n, kcat_i, kcat_r, kcat_z, kcat_l, kargs_0, kargs_s, kret_v, kret_n, kret_x, jX11_init_0, bX11_init_0, Nat.reduceAdd, Nat.reduceLeDiff, Nat.reduceEqDiff, Nat.reduceSub, Nat.zero_le, Nat.add_left_cancel_iff, true_and, and_true, if_true, if_false, reduceIte, ne_eq, not_false_eq_true, Nat.add_eq_left, Nat.left_eq_add, K3, L3, E3, B3, R3_0, r2]
  refine ci_28 (by omega) (h := knew (sR h3 1 3 26) (0, 10) 5) D3 B3 ?_
  have ag4 : agr (fun x => x ≠ 0) (in_28 (knew (sR h3 1 3 26) (0, 10) 5)) G31 := (agr_sR (agr_sL (agr_sR (agr_knl rfl (agr_sR (agr_knl rfl (agr_sR (agr_knl rfl (agr_knl rfl (agr_sR ag3))))))))))
  have az4 : az L xs (in_28 (knew (sR h3 1 3 26) (0, 10) 5)) := (az_sR (az_sL (az_sR (az_new (az_sR (az_new (az_sR (az_new (az_new (az_sR az3))))))))))
  generalize in_28 (knew (sR h3 1 3 26) (0, 10) 5) = h4 at ag4 az4 ⊢
  clear az3
  have N4 : kN h4 = 31 := agr_N ag4 (by decide +kernel)
  have K4 : kK h4 1 = (0, 11) := agr_K ag4 (by omega) (by decide +kernel)
  clear ag3 N3 K3 L3 E3 B3 R3_0 D3
  have L4 : kN (sR h4 1 4 28) + 1 = 32 := by rw [kN_sR, N4]
  have E4 : kK (knew (sR h4 1 4 28) (0, 0) 4) 1 = (0, 11) := by rw [kK_new, kN_sR, N4, if_neg (by omega), kK_sR, K4]
  have B4 : kK (knew (sR h4 1 4 28) (0, 0) 4) 32 = (0, 0) := by rw [kK_new, kN_sR, N4, if_pos rfl]
  have D4 : kN (knew (sR h4 1 4 28) (0, 0) 4) = 32 := by rw [kN_new, kN_sR, N4]
  simp only [ks_nop, ks_aload_0, ks_iconst, ks_dup_i, ks_dup_r, ks_get0, ks_get3, ks_get1, ks_get2, ks_put0, ks_put1, ks_put2, ks_put3, ks_new, ks_inv0, ks_inv1, ks_inv2, ks_inv4, ks_inv3, ks_inv5, ks_inv6, ks_inv7, ks_inv8, ks_vret, kldi_0, kldl_0, klda_0, kldz_0, kst1_0, kst2_0, kpr_r, kcat_n, kcat_i, kcat_r, kcat_z, kcat_l, kargs_0, kargs_s, kret_v, kret_n, kret_x, jX11_init_0, bX11_init_0, Nat.reduceAdd, Nat.reduceLeDiff, Nat.reduceEqDiff, Nat.reduceSub, Nat.zero_le, Nat.add_left_cancel_iff, true_and, and_true, if_true, if_false, reduceIte, ne_eq, not_false_eq_true, Nat.add_eq_left, Nat.left_eq_add, K4, L4, E4, B4, r2]
  refine ci_32 (by omega) (h := knew (sR h4 1 4 28) (0, 0) 4) D4 B4 ?_
  have ag5 : agr (fun x => x ≠ 0) (in_32 (knew (sR h4 1 4 28) (0, 0) 4)) G34 := (agr_sI (agr_sI (agr_sR (agr_knl rfl (agr_sR (agr_knl rfl (agr_knl rfl (agr_sR ag4))))))))
  have az5 : az L xs (in_32 (knew (sR h4 1 4 28) (0, 0) 4)) := (az_sI (by omega) (az_sI (by omega) (az_sR (az_new (az_sR (az_new (az_new (az_sR az4))))))))
  generalize in_32 (knew (sR h4 1 4 28) (0, 0) 4) = h5 at ag5 az5 ⊢
  clear az4
  have N5 : kN h5 = 34 := agr_N ag5 (by decide +kernel)
  have K5 : kK h5 1 = (0, 11) := agr_K ag5 (by omega) (by decide +kernel)
  clear ag4 N4 K4 L4 E4 B4 D4
  have L5 : kN (sR h5 1 5 32) + 1 = 35 := by rw [kN_sR, N5]
  have E5 : kK (knew (sR h5 1 5 32) (0, 8) 9) 1 = (0, 11) := by rw [kK_new, kN_sR, N5, if_neg (by omega), kK_sR, K5]
  have B5 : kK (knew (sR h5 1 5 32) (0, 8) 9) 35 = (0, 8) := by rw [kK_new, kN_sR, N5, if_pos rfl]
  have D5 : kN (knew (sR h5 1 5 32) (0, 8) 9) = 35 := by rw [kN_new, kN_sR, N5]
  simp only [ks_nop, ks_aload_0, ks_iconst, ks_dup_i, ks_dup_r, ks_get0, ks_get3, ks_get1, ks_get2, ks_put0, ks_put1, ks_put2, ks_put3, ks_new, ks_inv0, ks_inv1, ks_inv2, ks_inv4, ks_inv3, ks_inv5, ks_inv6, ks_inv7, ks_inv8, ks_vret, kldi_0, kldl_0, klda_0, kldz_0, kst1_0, kst2_0, kpr_r, kcat_n, kcat_i, kcat_r, kcat_z, kcat_l, kargs_0, kargs_s, kret_v, kret_n, kret_x, jX11_init_0, bX11_init_0, Nat.reduceAdd, Nat.reduceLeDiff, Nat.reduceEqDiff, Nat.reduceSub, Nat.zero_le, Nat.add_left_cancel_iff, true_and, and_true, if_true, if_false, reduceIte, ne_eq, not_false_eq_true, Nat.add_eq_left, Nat.left_eq_add, K5, L5, E5, B5, r2]
  refine ci_35 (by omega) (h := knew (sR h5 1 5 32) (0, 8) 9) D5 B5 ?_
  have ag6 : agr (fun x => x ≠ 0) (in_35 (knew (sR h5 1 5 32) (0, 8) 9)) G40 := (agr_sI (agr_sI (agr_sI (agr_sI (agr_sR (agr_knl rfl (agr_sR (agr_knl rfl (agr_sR (agr_knl rfl (agr_sR (agr_knl rfl (agr_sR (agr_knl rfl (agr_knl rfl (agr_sR ag5))))))))))))))))
  have az6 : az L xs (in_35 (knew (sR h5 1 5 32) (0, 8) 9)) := (az_sI (by omega) (az_sI (by omega) (az_sI (by omega) (az_sI (by omega) (az_sR (az_new (az_sR (az_new (az_sR (az_new (az_sR (az_new (az_sR (az_new (az_new (az_sR az5))))))))))))))))
  generalize in_35 (knew (sR h5 1 5 32) (0, 8) 9) = h6 at ag6 az6 ⊢
  clear az5
  have N6 : kN h6 = 40 := agr_N ag6 (by decide +kernel)
  have K6 : kK h6 1 = (0, 11) := agr_K ag6 (by omega) (by decide +kernel)
  clear ag5 N5 K5 L5 E5 B5 D5
  have L6 : kN (sR h6 1 6 35) + 1 = 41 := by rw [kN_sR, N6]
  have E6 : kK (knew (sR h6 1 6 35) (0, 5) 6) 1 = (0, 11) := by rw [kK_new, kN_sR, N6, if_neg (by omega), kK_sR, K6]
  have B6 : kK (knew (sR h6 1 6 35) (0, 5) 6) 41 = (0, 5) := by rw [kK_new, kN_sR, N6, if_pos rfl]
  have D6 : kN (knew (sR h6 1 6 35) (0, 5) 6) = 41 := by rw [kN_new, kN_sR, N6]
  simp only [ks_nop, ks_aload_0, ks_iconst, ks_dup_i, ks_dup_r, ks_get0, ks_get3, ks_get1, ks_get2, ks_put0, ks_put1, ks_put2, ks_put3, ks_new, ks_inv0, ks_inv1, ks_inv2, ks_inv4, ks_inv3, ks_inv5, ks_inv6, ks_inv7, ks_inv8, ks_vret, kldi_0, kldl_0, klda_0, kldz_0, kst1_0, kst2_0, kpr_r, kcat_n, kcat_i, kcat_r, kcat_z, kcat_l, kargs_0, kargs_s, kret_v, kret_n, kret_x, jX11_init_0, bX11_init_0, Nat.reduceAdd, Nat.reduceLeDiff, Nat.reduceEqDiff, Nat.reduceSub, Nat.zero_le, Nat.add_left_cancel_iff, true_and, and_true, if_true, if_false, reduceIte, ne_eq, not_false_eq_true, Nat.add_eq_left, Nat.left_eq_add, K6, L6, E6, B6, r2]
  refine ci_41 (by omega) (h := knew (sR h6 1 6 35) (0, 5) 6) D6 B6 ?_
  have ag7 : agr (fun x => x ≠ 0) (in_41 (knew (sR h6 1 6 35) (0, 5) 6)) G45 := (agr_sI (agr_sI (agr_sR (agr_knl rfl (agr_sR (agr_knl rfl (agr_sR (agr_knl rfl (agr_sR (agr_knl rfl (agr_knl rfl (agr_sR ag6))))))))))))
  have az7 : az L xs (in_41 (knew (sR h6 1 6 35) (0, 5) 6)) := (az_sI (by omega) (az_sI (by omega) (az_sR (az_new (az_sR (az_new (az_sR (az_new (az_sR (az_new (az_new (az_sR az6))))))))))))
  generalize in_41 (knew (sR h6 1 6 35) (0, 5) 6) = h7 at ag7 az7 ⊢
  clear az6
  have N7 : kN h7 = 45 := agr_N ag7 (by decide +kernel)
  have K7 : kK h7 1 = (0, 11) := agr_K ag7 (by omega) (by decide +kernel)
  clear ag6 N6 K6 L6 E6 B6 D6
  have L7 : kN (sR h7 1 7 41) + 1 = 46 := by rw [kN_sR, N7]
  have E7 : kK (knew (sR h7 1 7 41) (0, 2) 6) 1 = (0, 11) := by rw [kK_new, kN_sR, N7, if_neg (by omega), kK_sR, K7]
  have B7 : kK (knew (sR h7 1 7 41) (0, 2) 6) 46 = (0, 2) := by rw [kK_new, kN_sR, N7, if_pos rfl]
  have D7 : kN (knew (sR h7 1 7 41) (0, 2) 6) = 46 := by rw [kN_new, kN_sR, N7]
  simp only [ks_nop, ks_aload_0, ks_iconst, ks_dup_i, ks_dup_r, ks_get0, ks_get3, ks_get1, ks_get2, ks_put0, ks_put1, ks_put2, ks_put3, ks_new, ks_inv0, ks_inv1, ks_inv2, ks_inv4, ks_inv3, ks_inv5, ks_inv6, ks_inv7, ks_inv8, ks_vret, kldi_0, kldl_0, klda_0, kldz_0, kst1_0, kst2_0, kpr_r, kcat_n, kcat_i, kcat_r, kcat_z, kcat_l, kargs_0, kargs_s, kret_v, kret_n, kret_x, jX11_init_0, bX11_init_0, Nat.reduceAdd, Nat.reduceLeDiff, Nat.reduceEqDiff, Nat.reduceSub, Nat.zero_le, Nat.add_left_cancel_iff, true_and, and_true, if_true, if_false, reduceIte, ne_eq, not_false_eq_true, Nat.add_eq_left, Nat.left_eq_add, K7, L7, E7, B7, r2]
  refine ci_46 (by omega) (h := knew (sR h7 1 7 41) (0, 2) 6) D7 B7 ?_
  have ag8 : agr (fun x => x ≠ 0) (in_46 (knew (sR h7 1 7 41) (0, 2) 6)) G49 := (agr_sI (agr_sI (agr_sI (agr_sR (agr_knl rfl (agr_sR (agr_knl rfl (agr_sR (agr_knl rfl (agr_knl rfl (agr_sR ag7)))))))))))
  have az8 : az L xs (in_46 (knew (sR h7 1 7 41) (0, 2) 6)) := (az_sI (by omega) (az_sI (by omega) (az_sI (by omega) (az_sR (az_new (az_sR (az_new (az_sR (az_new (az_new (az_sR az7)))))))))))
  generalize in_46 (knew (sR h7 1 7 41) (0, 2) 6) = h8 at ag8 az8 ⊢
  clear az7
  have N8 : kN h8 = 49 := agr_N ag8 (by decide +kernel)
  have K8 : kK h8 1 = (0, 11) := agr_K ag8 (by omega) (by decide +kernel)
  clear ag7 N7 K7 L7 E7 B7 D7
  have L8 : kN (sR h8 1 8 46) + 1 = 50 := by rw [kN_sR, N8]
  have E8 : kK (knew (sR h8 1 8 46) (0, 3) 6) 1 = (0, 11) := by rw [kK_new, kN_sR, N8, if_neg (by omega), kK_sR, K8]
  have B8 : kK (knew (sR h8 1 8 46) (0, 3) 6) 50 = (0, 3) := by rw [kK_new, kN_sR, N8, if_pos rfl]
  have D8 : kN (knew (sR h8 1 8 46) (0, 3) 6) = 50 := by rw [kN_new, kN_sR, N8]
  have R8_7 : kR (knew (sR h8 1 8 46) (0, 3) 6) 1 7 = 41 := by rw [kR_new, kN_sR, N8, if_neg (by omega), kR_q, if_neg (by omega)]; exact agr_R ag8 (by decide +kernel)
  simp only [ks_nop, ks_aload_0, ks_iconst, ks_dup_i, ks_dup_r, ks_get0, ks_get3, ks_get1, ks_get2, ks_put0, ks_put1, ks_put2, ks_put3, ks_new, ks_inv0, ks_inv1, ks_inv2, ks_inv4, ks_inv3, ks_inv5, ks_inv6, ks_inv7, ks_inv8, ks_vret, kldi_0, kldl_0, klda_0, kldz_0, kst1_0, kst2_0, kpr_r, kcat_n, kcat_i, kcat_r, kcat_z, kcat_l, kargs_0, kargs_s, kret_v, kret_n, kret_x, jX11_init_0, bX11_init_0, Nat.reduceAdd, Nat.reduceLeDiff, Nat.reduceEqDiff, Nat.reduceSub, Nat.zero_le, Nat.add_left_cancel_iff, true_and, and_true, if_true, if_false, reduceIte, ne_eq, not_false_eq_true, Nat.add_eq_left, Nat.left_eq_add, K8, L8, E8, B8, R8_7, r2]
  refine ci_50 (by omega) (h := knew (sR h8 1 8 46) (0, 3) 6) D8 B8 ?_
  have ag9 : agr (fun x => x ≠ 0) (in_50 (knew (sR h8 1 8 46) (0, 3) 6)) G54 := (agr_sR (agr_sI (agr_sR (agr_knl rfl (agr_sR (agr_knl rfl (agr_sR (agr_knl rfl (agr_sR (agr_knl rfl (agr_knl rfl (agr_sR ag8))))))))))))
  have az9 : az L xs (in_50 (knew (sR h8 1 8 46) (0, 3) 6)) := (az_sR (az_sI (by omega) (az_sR (az_new (az_sR (az_new (az_sR (az_new (az_sR (az_new (az_new (az_sR az8))))))))))))
  generalize in_50 (knew (sR h8 1 8 46) (0, 3) 6) = h9 at ag9 az9 ⊢
  clear az8
  have N9 : kN h9 = 54 := agr_N ag9 (by decide +kernel)
  have K9 : kK h9 1 = (0, 11) := agr_K ag9 (by omega) (by decide +kernel)
  clear ag8 N8 K8 L8 E8 B8 R8_7 D8
  have L9 : kN (sR h9 1 9 50) + 1 = 55 := by rw [kN_sR, N9]
  have E9 : kK (knew (sR h9 1 9 50) (0, 6) 10) 1 = (0, 11) := by rw [kK_new, kN_sR, N9, if_neg (by omega), kK_sR, K9]
  have B9 : kK (knew (sR h9 1 9 50) (0, 6) 10) 55 = (0, 6) := by rw [kK_new, kN_sR, N9, if_pos rfl]
  have D9 : kN (knew (sR h9 1 9 50) (0, 6) 10) = 55 := by rw [kN_new, kN_sR, N9]
  have R9_7 : kR (knew (sR h9 1 9 50) (0, 6) 10) 1 7 = 41 := by rw [kR_new, kN_sR, N9, if_neg (by omega), kR_q, if_neg (by omega)]; exact agr_R ag9 (by decide +kernel)
  have R9_0 : kR (knew (sR h9 1 9 50) (0, 6) 10) 1 0 = 2 := by rw [kR_new, kN_sR, N9, if_neg (by omega), kR_q, if_neg (by omega)]; exact agr_R ag9 (by decide +kernel)
  simp only [ks_nop, ks_aload_0, ks_iconst, ks_dup_i, ks_dup_r, ks_get0, ks_get3, ks_get1, ks_get2, ks_put0, ks_put1, ks_put2, ks_put3, ks_new, ks_inv0, ks_inv1, ks_inv2, ks_inv4, ks_inv3, ks_inv5, ks_inv6, ks_inv7, ks_inv8, ks_vret, kldi_0, kldl_0, klda_0, kldz_0, kst1_0, kst2_0, kpr_r, kcat_n, kcat_i, kcat_r, kcat_z, kcat_l, kargs_0, kargs_s, kret_v, kret_n, kret_x, jX11_init_0, bX11_init_0, Nat.reduceAdd, Nat.reduceLeDiff, Nat.reduceEqDiff, Nat.reduceSub, Nat.zero_le, Nat.add_left_cancel_iff, true_and, and_true, if_true, if_false, reduceIte, ne_eq, not_false_eq_true, Nat.add_eq_left, Nat.left_eq_add, K9, L9, E9, B9, R9_7, R9_0, r2]
  refine ci_55 (by omega) (h := knew (sR h9 1 9 50) (0, 6) 10) D9 B9 ?_
  have ag10 : agr (fun x => x ≠ 0) (in_55 (knew (sR h9 1 9 50) (0, 6) 10)) G61 := (agr_sR (agr_sR (agr_sI (agr_sI (agr_sR (agr_knl rfl (agr_sR (agr_knl rfl (agr_sR (agr_knl rfl (agr_sR (agr_knl rfl (agr_sR (agr_knl rfl (agr_sR (agr_knl rfl (agr_knl rfl (agr_sR ag9))))))))))))))))))
  have az10 : az L xs (in_55 (knew (sR h9 1 9 50) (0, 6) 10)) := (az_sR (az_sR (az_sI (by omega) (az_sI (by omega) (az_sR (az_new (az_sR (az_new (az_sR (az_new (az_sR (az_new (az_sR (az_new (az_sR (az_new (az_new (az_sR az9))))))))))))))))))
  generalize in_55 (knew (sR h9 1 9 50) (0, 6) 10) = h10 at ag10 az10 ⊢
  clear az9
  have N10 : kN h10 = 61 := agr_N ag10 (by decide +kernel)
  have K10 : kK h10 1 = (0, 11) := agr_K ag10 (by omega) (by decide +kernel)
  clear ag9 N9 K9 L9 E9 B9 R9_7 R9_0 D9
  have L10 : kN (sR h10 1 10 55) + 1 = 62 := by rw [kN_sR, N10]
  have E10 : kK (knew (sR h10 1 10 55) (0, 4) 13) 1 = (0, 11) := by rw [kK_new, kN_sR, N10, if_neg (by omega), kK_sR, K10]
  have B10 : kK (knew (sR h10 1 10 55) (0, 4) 13) 62 = (0, 4) := by rw [kK_new, kN_sR, N10, if_pos rfl]
  have D10 : kN (knew (sR h10 1 10 55) (0, 4) 13) = 62 := by rw [kN_new, kN_sR, N10]
  have R10_4 : kR (knew (sR h10 1 10 55) (0, 4) 13) 1 4 = 28 := by rw [kR_new, kN_sR, N10, if_neg (by omega), kR_q, if_neg (by omega)]; exact agr_R ag10 (by decide +kernel)
  have R10_6 : kR (knew (sR h10 1 10 55) (0, 4) 13) 1 6 = 35 := by rw [kR_new, kN_sR, N10, if_neg (by omega), kR_q, if_neg (by omega)]; exact agr_R ag10 (by decide +kernel)
  have R10_9 : kR (knew (sR h10 1 10 55) (0, 4) 13) 1 9 = 50 := by rw [kR_new, kN_sR, N10, if_neg (by omega), kR_q, if_neg (by omega)]; exact agr_R ag10 (by decide +kernel)
  have R10_10 : kR (knew (sR h10 1 10 55) (0, 4) 13) 1 10 = 55 := by rw [kR_new, kN_sR, N10, if_neg (by omega), kR_q, if_pos rfl]
  simp only [ks_nop, ks_aload_0, ks_iconst, ks_dup_i, ks_dup_r, ks_get0, ks_get3, ks_get1, ks_get2, ks_put0, ks_put1, ks_put2, ks_put3, ks_new, ks_inv0, ks_inv1, ks_inv2, ks_inv4, ks_inv3, ks_inv5, ks_inv6, ks_inv7, ks_inv8, ks_vret, kldi_0, kldl_0, klda_0, kldz_0, kst1_0, kst2_0, kpr_r, kcat_n, kcat_i, kcat_r, kcat_z, kcat_l, kargs_0, kargs_s, kret_v, kret_n, kret_x, jX11_init_0, bX11_init_0, Nat.reduceAdd, Nat.reduceLeDiff, Nat.reduceEqDiff, Nat.reduceSub, Nat.zero_le, Nat.add_left_cancel_iff, true_and, and_true, if_true, if_false, reduceIte, ne_eq, not_false_eq_true, Nat.add_eq_left, Nat.left_eq_add, K10, L10, E10, B10, R10_4, R10_6, R10_9, R10_10, r2]
  refine ci_62 (by omega) (h := knew (sR h10 1 10 55) (0, 4) 13) D10 B10 ?_
  have ag11 : agr (fun x => x ≠ 0) (in_62 (knew (sR h10 1 10 55) (0, 4) 13)) G63 := (agr_sR (agr_sR (agr_sR (agr_sR (agr_sI (agr_sI (agr_sR (agr_knl rfl (agr_sI (agr_sI (agr_sI (agr_sL (agr_sI (agr_sL (agr_knl rfl (agr_sR ag10))))))))))))))))
  have az11 : az L xs (in_62 (knew (sR h10 1 10 55) (0, 4) 13)) := (az_sR (az_sR (az_sR (az_sR (az_sI (by omega) (az_sI (by omega) (az_sR (az_new (az_sI (by omega) (az_sI (by omega) (az_sI (by omega) (az_sL (az_sI (by omega) (az_sL (az_new (az_sR az10))))))))))))))))
  generalize in_62 (knew (sR h10 1 10 55) (0, 4) 13) = h11 at ag11 az11 ⊢
  clear az10
  have N11 : kN h11 = 63 := agr_N ag11 (by decide +kernel)
  have K11 : kK h11 1 = (0, 11) := agr_K ag11 (by omega) (by decide +kernel)
  clear ag10 N10 K10 L10 E10 B10 R10_4 R10_6 R10_9 R10_10 D10
  have L11 : kN (sR h11 1 11 62) + 1 = 64 := by rw [kN_sR, N11]
  have E11 : kK (knew (sR h11 1 11 62) (0, 7) 2) 1 = (0, 11) := by rw [kK_new, kN_sR, N11, if_neg (by omega), kK_sR, K11]
  have B11 : kK (knew (sR h11 1 11 62) (0, 7) 2) 64 = (0, 7) := by rw [kK_new, kN_sR, N11, if_pos rfl]
  have D11 : kN (knew (sR h11 1 11 62) (0, 7) 2) = 64 := by rw [kN_new, kN_sR, N11]
  simp only [ks_nop, ks_aload_0, ks_iconst, ks_dup_i, ks_dup_r, ks_get0, ks_get3, ks_get1, ks_get2, ks_put0, ks_put1, ks_put2, ks_put3, ks_new, ks_inv0, ks_inv1, ks_inv2, ks_inv4, ks_inv3, ks_inv5, ks_inv6, ks_inv7, ks_inv8, ks_vret, kldi_0, kldl_0, klda_0, kldz_0, kst1_0, kst2_0, kpr_r, kcat_n, kcat_i, kcat_r, kcat_z, kcat_l, kargs_0, kargs_s, kret_v, kret_n, kret_x, jX11_init_0, bX11_init_0, Nat.reduceAdd, Nat.reduceLeDiff, Nat.reduceEqDiff, Nat.reduceSub, Nat.zero_le, Nat.add_left_cancel_iff, true_and, and_true, if_true, if_false, reduceIte, ne_eq, not_false_eq_true, Nat.add_eq_left, Nat.left_eq_add, K11, L11, E11, B11, r2]
  refine ci_64 (by omega) (h := knew (sR h11 1 11 62) (0, 7) 2) D11 B11 ?_
  have ag12 : agr (fun x => x ≠ 0) (in_64 (knew (sR h11 1 11 62) (0, 7) 2)) G65 := (agr_sI (agr_sR (agr_knl rfl (agr_knl rfl (agr_sR ag11)))))
  have az12 : az L xs (in_64 (knew (sR h11 1 11 62) (0, 7) 2)) := (az_sI (by omega) (az_sR (az_new (az_new (az_sR az11)))))
  generalize in_64 (knew (sR h11 1 11 62) (0, 7) 2) = h12 at ag12 az12 ⊢
  clear az11
  have N12 : kN h12 = 65 := agr_N ag12 (by decide +kernel)
  have K12 : kK h12 1 = (0, 11) := agr_K ag12 (by omega) (by decide +kernel)
  clear ag11 N11 K11 L11 E11 B11 D11
  have KP : kK (sR h12 1 12 64) 1 = (0, 11) := by rw [kK_sR]; exact K12
  simp only [ks_nop, ks_aload_0, ks_iconst, ks_dup_i, ks_dup_r, ks_get0, ks_get3, ks_get1, ks_get2, ks_put0, ks_put1, ks_put2, ks_put3, ks_new, ks_inv0, ks_inv1, ks_inv2, ks_inv4, ks_inv3, ks_inv5, ks_inv6, ks_inv7, ks_inv8, ks_vret, kldi_0, kldl_0, klda_0, kldz_0, kst1_0, kst2_0, kpr_r, kcat_n, kcat_i, kcat_r, kcat_z, kcat_l, kargs_0, kargs_s, kret_v, kret_n, kret_x, jX11_init_0, bX11_init_0, Nat.reduceAdd, Nat.reduceLeDiff, Nat.reduceEqDiff, Nat.reduceSub, Nat.zero_le, Nat.add_left_cancel_iff, true_and, and_true, if_true, if_false, reduceIte, ne_eq, not_false_eq_true, Nat.add_eq_left, Nat.left_eq_add, K12, KP, r2]
  have agp : agr (fun x => x ≠ 0) (sR h12 1 12 64) GZ := by
    unfold GZ
    exact agr_sR ag12
  have azp : az L xs (sR h12 1 12 64) := az_sR az12
  generalize sR h12 1 12 64 = hp at agp azp ⊢
  have w : kW hp := agr_W agp GZ_W
  refine c_startL (P1 := []) (C1 := []) (by omega) w (Or.inl rfl) (gp_GQ agp) (agr_R agp (by decide +kernel)) (agr_R agp (by decide +kernel)) (gp_TC agp) (gp_Z agp) (gp_CS agp) (fun h' f K2 S2 L2 T2 => ?_)
  simp only [ks_nop, ks_aload_0, ks_iconst, ks_dup_i, ks_dup_r, ks_get0, ks_get3, ks_get1, ks_get2, ks_put0, ks_put1, ks_put2, ks_put3, ks_new, ks_inv0, ks_inv1, ks_inv2, ks_inv4, ks_inv3, ks_inv5, ks_inv6, ks_inv7, ks_inv8, ks_vret, kldi_0, kldl_0, klda_0, kldz_0, kst1_0, kst2_0, kpr_r, kcat_n, kcat_i, kcat_r, kcat_z, kcat_l, kargs_0, kargs_s, kret_v, kret_n, kret_x, jX11_init_0, bX11_init_0, Nat.reduceAdd, Nat.reduceLeDiff, Nat.reduceEqDiff, Nat.reduceSub, Nat.zero_le, Nat.add_left_cancel_iff, true_and, and_true, if_true, if_false, reduceIte, ne_eq, not_false_eq_true, Nat.add_eq_left, Nat.left_eq_add, kI_sI, kL_sI, kR_sI, kK_sI, kI_sL, kL_sL, kR_sL, kK_sL, kI_sIA, kL_sIA, kR_sIA, kK_sIA, kI_sLA, kL_sLA, kR_sLA, kK_sLA]
  exact H hp h' agp azp f K2 S2 L2 T2
end CI0

/-! trees: the contexts of a word, each ahead of what it is split into -/
abbrev TN : Type := List (Nat × Nat × Nat)
def TreeR (B : GB) (P : List (List Nat)) (C : CL) (w : List Nat) : Nat → Nat → Nat → Nat → TN → Prop
  | 0, _, _, _, _ => False
  | n + 1, x, i, j, T => (j = i + 1 ∧ T = [(x, i, 1)]) ∨ (i + 2 ≤ j ∧ ∃ k y z T1 T2, SPL B P C w x i j k y z ∧ TreeR B P C w n y i k T1 ∧ TreeR B P C w n z k j T2 ∧ T = (x, i, j - i) :: (T1 ++ T2))
section TH
variable {B : GB} {P : List (List Nat)} {C : CL}
theorem TreeR_un (hC : C.length ≤ 12) {w : List Nat} : ∀ n m x i j T T', TreeR B P C w n x i j T → TreeR B P C w m x i j T' → T = T'
  | 0, _, _, _, _, _, _, h, _ => h.elim
  | _ + 1, 0, _, _, _, _, _, _, h => h.elim
  | n + 1, m + 1, x, i, j, T, T', h, h' => by
    rcases h with ⟨e1, e2⟩ | ⟨e1, k, y, z, T1, T2, s, t1, t2, e2⟩
    · rcases h' with ⟨f1, f2⟩ | ⟨f1, _⟩
      · rw [e2, f2]
      · omega
    · rcases h' with ⟨f1, f2⟩ | ⟨f1, k', y', z', T1', T2', s', t1', t2', f2⟩
      · omega
      · obtain ⟨ek, ey, ez⟩ := SPL_un hC s s'
        subst ek ey ez
        rw [e2, f2, TreeR_un hC n m _ _ _ _ _ t1 t1', TreeR_un hC n m _ _ _ _ _ t2 t2']
theorem TreeR_len {w : List Nat} : ∀ n x i j T, TreeR B P C w n x i j T → i < j ∧ T.length + 1 = 2 * (j - i)
  | 0, _, _, _, _, h => h.elim
  | n + 1, x, i, j, T, h => by
    rcases h with ⟨e1, e2⟩ | ⟨e1, k, y, z, T1, T2, s, t1, t2, e2⟩
    · rw [e2]; simp; omega
    · have l1 := TreeR_len n _ _ _ _ t1
      have l2 := TreeR_len n _ _ _ _ t2
      rw [e2]
      simp only [List.length_cons, List.length_append]
      omega
theorem TreeR_mono {w : List Nat} : ∀ n x i j T, TreeR B P C w n x i j T → TreeR B P C w (n + 1) x i j T
  | 0, _, _, _, _, h => h.elim
  | n + 1, x, i, j, T, h => by
    rcases h with ⟨e1, e2⟩ | ⟨e1, k, y, z, T1, T2, s, t1, t2, e2⟩
    · exact Or.inl ⟨e1, e2⟩
    · exact Or.inr ⟨e1, k, y, z, T1, T2, s, TreeR_mono n _ _ _ _ t1, TreeR_mono n _ _ _ _ t2, e2⟩
def gT3 (T : TN) (i : Nat) : Nat × Nat × Nat := T.getD i (0, 0, 0)
theorem gT3_l {T T' : TN} {i : Nat} (h : i < T.length) : gT3 (T ++ T') i = gT3 T i := getD_l h
theorem gT3_r {T : TN} {q : Nat × Nat × Nat} : gT3 (T ++ [q]) T.length = q := getD_r
end TH
/-- the reference's tree -/
def TM (h : KH) (T : TN) : Prop := kI h 66 62 = nI T.length ∧ ∀ i, i < T.length → kI h 96 i = nI (gT3 T i).1 ∧ kI h 97 i = nI (gT3 T i).2.1 ∧ kI h 98 i = nI (gT3 T i).2.2
theorem TM_add {h h' : KH} {T : TN} {x i l : Nat} (M : TM h T) (e62 : kI h' 66 62 = nI (T.length + 1)) (e96 : kI h' 96 = upd (kI h 96) T.length (nI x)) (e97 : kI h' 97 = upd (kI h 97) T.length (nI i)) (e98 : kI h' 98 = upd (kI h 98) T.length (nI l)) : TM h' (T ++ [(x, i, l)]) := by
  refine ⟨by rw [e62, List.length_append]; rfl, fun k hk => ?_⟩
  rw [List.length_append] at hk
  rw [e96, e97, e98]
  by_cases e : k = T.length
  · rw [e, upd_at, upd_at, upd_at, gT3_r]; exact ⟨rfl, rfl, rfl⟩
  · have hk2 : k < T.length := by simp at hk; omega
    rw [upd_ne _ _ e, upd_ne _ _ e, upd_ne _ _ e, gT3_l hk2]; exact M.2 k hk2
section RF
variable {r : Nat} {h : KH} {Q : KO → KH → Prop} {B : GB} {P : List (List Nat)} {C : CL}
theorem put4 (h : KH) (n : Nat) (x i l : Int32) (v : Int32) : kI (sI (sI (sI (sI h 96 n x) 97 n i) 98 n l) 66 62 v) 66 62 = v ∧ kI (sI (sI (sI (sI h 96 n x) 97 n i) 98 n l) 66 62 v) 96 = upd (kI h 96) n x ∧ kI (sI (sI (sI (sI h 96 n x) 97 n i) 98 n l) 66 62 v) 97 = upd (kI h 97) n i ∧ kI (sI (sI (sI (sI h 96 n x) 97 n i) 98 n l) 66 62 v) 98 = upd (kI h 98) n l := by
  refine ⟨?_, ?_, ?_, ?_⟩
  · rw [kI_sI, if_pos rfl, upd_at]
  · rw [kI_sI, if_neg (by omega), kI_sI, if_neg (by omega), kI_sI, if_neg (by omega), kI_sI, if_pos rfl]
  · rw [kI_sI, if_neg (by omega), kI_sI, if_neg (by omega), kI_sI, if_pos rfl, kI_sI, if_neg (by omega)]
  · rw [kI_sI, if_neg (by omega), kI_sI, if_pos rfl, kI_sI, if_neg (by omega), kI_sI, if_neg (by omega)]
theorem c_grows {u : List Nat} (hC : COK C) (hl : u.length ≤ 20) : ∀ d x i j r h (T0 : TN) (Q : KO → KH → Prop), j - i ≤ d → d + 5 ≤ r → kW h → MR h B P C → kI h 66 31 = nI C.length → HM h B P C u → i < j → j ≤ u.length → x < C.length → (hs B P C (sb u i j)).testBit x = true → TM h T0 → T0.length + 2 * (j - i) ≤ 41 →
    (∀ h' T, FM [56, 57, 58, 62] [96, 97, 98] [] h h' → TreeR B P C u d x i j T → TM h' (T0 ++ T) → Q (.inl none) h') → kCalls r yX12_grows [.ref 66, .int (nI x), .int (nI i), .int (nI j)] h Q := by
  intro d
  induction d with
  | zero => intro x i j r h T0 Q hd; omega
  | succ d ih =>
    intro x i j r h T0 Q hd hr w M hc K hij hj hx hb TM0 hT H
    have r2 : 2 ≤ r := by omega
    have h12 := hC.1
    have t62 := TM0.1
    have w0 := w
    refine sX12_grows _ _ _ _ ?_
    refine eX12_grows_0 ?_
    simp only [ks_nop, ks_aload_0, ks_iload_1, ks_iload_2, ks_iload_3, ks_iload, ks_istore, ks_iconst, ks_iadd, ks_isub, ks_dup_i, ks_dup_r, ks_icmp_ne, ks_get0, ks_get3, ks_get1, ks_get2, ks_put0, ks_put1, ks_put2, ks_put3, ks_iast, ks_inv0, ks_inv1, ks_inv2, ks_inv4, ks_inv3, ks_inv5, ks_inv6, ks_inv7, ks_inv8, ks_vret, kldi_0, kldl_0, klda_0, kldz_0, kst1_0, kst2_0, kldi_1, kldl_1, klda_1, kldz_1, kst1_1n, kst2_1n, kst1_1i, kst2_1i, kst1_1r, kst2_1r, kst1_1z, kst2_1z, kst1_1l, kst2_1l, kldi_2, kldl_2, klda_2, kldz_2, kst1_2n, kst2_2n, kst1_2i, kst2_2i, kst1_2r, kst2_2r, kst1_2z, kst2_2z, kst1_2l, kst2_2l, kldi_3, kldl_3, klda_3, kldz_3, kst1_3n, kst2_3n, kst1_3i, kst2_3i, kst1_3r, kst2_3r, kst1_3z, kst2_3z, kst1_3l, kst2_3l, kldi_4, kldl_4, klda_4, kldz_4, kst1_4n, kst2_4n, kst1_4i, kst2_4i, kst1_4r, kst2_4r, kst1_4z, kst2_4z, kst1_4l, kst2_4l, kldi_5, kldl_5, klda_5, kldz_5, kst1_5n, kst2_5n, kst1_5i, kst2_5i, kst1_5r, kst2_5r, kst1_5z, kst2_5z, kst1_5l, kst2_5l, kpr_r, kcat_n, kcat_i, kcat_r, kcat_z, kcat_l, kargs_0, kargs_s, kret_v, kret_n, kret_x, jX12_grows_0, bX12_grows_0, jX12_grows_50, bX12_grows_50, Nat.reduceAdd, Nat.reduceLeDiff, Nat.reduceEqDiff, Nat.reduceSub, Nat.zero_le, Nat.add_left_cancel_iff, true_and, and_true, if_true, if_false, reduceIte, ne_eq, not_false_eq_true, Nat.add_eq_left, Nat.left_eq_add, kI_sI, kL_sI, kR_sI, kK_sI, kI_sL, kL_sL, kR_sL, kK_sL, kI_sIA, kL_sIA, kR_sIA, kK_sIA, kI_sLA, kL_sLA, kR_sLA, kK_sLA, wK_66 w, wR_66_3 w, wR_66_4 w, wR_66_5 w, wR_66_7 w, wR_66_10 w, wR_66_11 w, wR_66_12 w, wR_66_13 w, wR_66_14 w, wR_66_20 w, wR_66_22 w, wR_66_23 w, wR_66_24 w, wR_66_25 w, wR_66_26 w, wR_66_29 w, wR_66_30 w, wR_66_32 w, wR_66_33 w, wR_66_34 w, wR_66_38 w, wR_66_39 w, wR_66_40 w, wR_66_41 w, wR_66_42 w, wR_66_43 w, wR_66_44 w, wR_66_51 w, wR_66_55 w, wR_66_59 w, wR_66_60 w, wR_66_61 w, wR_66_66 w, wR_66_70 w, wR_66_74 w, wR_66_77 w, wR_66_81 w, wR_66_83 w, wK_67 w, wK_68 w, wK_69 w, wK_70 w, wK_71 w, wK_72 w, wK_73 w, wK_74 w, wK_75 w, wK_76 w, wK_77 w, wK_78 w, wK_79 w, wK_80 w, wK_81 w, wK_82 w, wK_83 w, wK_84 w, wK_85 w, wK_86 w, wK_87 w, wK_88 w, wK_89 w, wK_90 w, wK_91 w, wK_92 w, wK_93 w, wK_94 w, wK_95 w, wK_96 w, wK_97 w, wK_98 w, wK_99 w, wK_100 w, wK_101 w, wK_102 w, wK_103 w, wK_104 w, t62, r2]
    try simp (disch := omega) only [a_0, a_1, a_L0, a_L1, a_lt, a_le, a_eq, a_sub, a_addn, nI_add, pk_mul, a_in, nI_clamp, a_eqn, a_eqn', a_eqn2, a_n12, eq_self, a_ltn, a_ltn', a_len, a_len', a_shl1, z_shr, fa_and, fa_or, a_tb, a_tb0, a_b0, a_b1, a_bi, a_lc0, a_lcle, a_lcge, a_lclt, a_lcgt, upd_at, upd_ne, updL_at, updL_ne, Nat.reduceAdd, Nat.reduceSub, Nat.reduceMul, Nat.reduceLT, Nat.reduceLeDiff, Nat.reduceEqDiff, true_and, and_true, if_true, if_false, reduceIte, ne_eq, not_false_eq_true, not_true_eq_false, true_implies, false_implies, Nat.not_lt, Nat.not_le, Nat.le_refl, Nat.add_sub_cancel, Nat.lt_irrefl, Nat.not_lt_zero, Nat.zero_le, Nat.testBit_shiftRight, Nat.add_zero, reduceCtorEq, true_or, or_true, or_false, false_or, Bool.true_eq_false, Bool.false_eq_true, Bool.not_eq_false, Bool.not_eq_true, Decidable.not_not, t62, r2]
    obtain ⟨g62, g96, g97, g98⟩ := put4 h T0.length (nI x) (nI i) (nI (j - i)) (nI (T0.length + 1))
    have gf : FM [56, 57, 58, 62] [96, 97, 98] [] h (sI (sI (sI (sI h 96 T0.length (nI x)) 97 T0.length (nI i)) 98 T0.length (nI (j - i))) 66 62 (nI (T0.length + 1))) := FM_put (FM_sI (FM_sI (FM_sI (FM_rf _ _ _ _) (by simp) (by omega)) (by simp) (by omega)) (by simp) (by omega)) (by simp)
    generalize sI (sI (sI (sI h 96 T0.length (nI x)) 97 T0.length (nI i)) 98 T0.length (nI (j - i))) 66 62 (nI (T0.length + 1)) = h1 at g62 g96 g97 g98 gf ⊢
    have T1 := TM_add (x := x) (i := i) (l := j - i) TM0 g62 g96 g97 g98
    have w1 := FM_W gf w0
    have M1 := MR_fm gf (by simp) (by simp) M
    have hc1 : kI h1 66 31 = nI C.length := by rw [gf.2 31 (by simp)]; exact hc
    have K1 : HM h1 B P C u := by unfold HM; rw [FM_I gf (a := 95) (by simp) (by omega)]; exact K
    refine ⟨fun c => ?_, fun c => ?_⟩
    · refine c_splits (B := B) (P := P) (C := C) (u := u) (by omega) w1 M1 hc1 hC K1 hl (by omega) hj hx hb (fun h2 k y z f2 sp s56 s57 s58 => ?_)
      have f3 : FM [56, 57, 58, 62] [96, 97, 98] [] h h2 := FM_tr gf f2 (by simp) (by simp) (by simp)
      have w := FM_W f3 w0
      have M2 := MR_fm f2 (by simp) (by simp) M1
      have hc2 : kI h2 66 31 = nI C.length := by rw [f2.2 31 (by simp)]; exact hc1
      have K2 : HM h2 B P C u := by unfold HM; rw [FM_I f2 (a := 95) (by simp) (by omega)]; exact K1
      have T2 : TM h2 (T0 ++ [(x, i, j - i)]) := by
        unfold TM
        rw [f2.2 62 (by simp), FM_I f2 (a := 96) (by simp) (by omega), FM_I f2 (a := 97) (by simp) (by omega), FM_I f2 (a := 98) (by simp) (by omega)]
        exact T1
      have sR := R2_iff.mp sp.2.2.2.2.1
      have k1 := sp.1
      have k2 := sp.2.1
      simp only [ks_nop, ks_aload_0, ks_iload_1, ks_iload_2, ks_iload_3, ks_iload, ks_istore, ks_iconst, ks_iadd, ks_isub, ks_dup_i, ks_dup_r, ks_icmp_ne, ks_get0, ks_get3, ks_get1, ks_get2, ks_put0, ks_put1, ks_put2, ks_put3, ks_iast, ks_inv0, ks_inv1, ks_inv2, ks_inv4, ks_inv3, ks_inv5, ks_inv6, ks_inv7, ks_inv8, ks_vret, kldi_0, kldl_0, klda_0, kldz_0, kst1_0, kst2_0, kldi_1, kldl_1, klda_1, kldz_1, kst1_1n, kst2_1n, kst1_1i, kst2_1i, kst1_1r, kst2_1r, kst1_1z, kst2_1z, kst1_1l, kst2_1l, kldi_2, kldl_2, klda_2, kldz_2, kst1_2n, kst2_2n, kst1_2i, kst2_2i, kst1_2r, kst2_2r, kst1_2z, kst2_2z, kst1_2l, kst2_2l, kldi_3, kldl_3, klda_3, kldz_3, kst1_3n, kst2_3n, kst1_3i, kst2_3i, kst1_3r, kst2_3r, kst1_3z, kst2_3z, kst1_3l, kst2_3l, kldi_4, kldl_4, klda_4, kldz_4, kst1_4n, kst2_4n, kst1_4i, kst2_4i, kst1_4r, kst2_4r, kst1_4z, kst2_4z, kst1_4l, kst2_4l, kldi_5, kldl_5, klda_5, kldz_5, kst1_5n, kst2_5n, kst1_5i, kst2_5i, kst1_5r, kst2_5r, kst1_5z, kst2_5z, kst1_5l, kst2_5l, kpr_r, kcat_n, kcat_i, kcat_r, kcat_z, kcat_l, kargs_0, kargs_s, kret_v, kret_n, kret_x, jX12_grows_0, bX12_grows_0, jX12_grows_50, bX12_grows_50, Nat.reduceAdd, Nat.reduceLeDiff, Nat.reduceEqDiff, Nat.reduceSub, Nat.zero_le, Nat.add_left_cancel_iff, true_and, and_true, if_true, if_false, reduceIte, ne_eq, not_false_eq_true, Nat.add_eq_left, Nat.left_eq_add, kI_sI, kL_sI, kR_sI, kK_sI, kI_sL, kL_sL, kR_sL, kK_sL, kI_sIA, kL_sIA, kR_sIA, kK_sIA, kI_sLA, kL_sLA, kR_sLA, kK_sLA, wK_66 w, wR_66_3 w, wR_66_4 w, wR_66_5 w, wR_66_7 w, wR_66_10 w, wR_66_11 w, wR_66_12 w, wR_66_13 w, wR_66_14 w, wR_66_20 w, wR_66_22 w, wR_66_23 w, wR_66_24 w, wR_66_25 w, wR_66_26 w, wR_66_29 w, wR_66_30 w, wR_66_32 w, wR_66_33 w, wR_66_34 w, wR_66_38 w, wR_66_39 w, wR_66_40 w, wR_66_41 w, wR_66_42 w, wR_66_43 w, wR_66_44 w, wR_66_51 w, wR_66_55 w, wR_66_59 w, wR_66_60 w, wR_66_61 w, wR_66_66 w, wR_66_70 w, wR_66_74 w, wR_66_77 w, wR_66_81 w, wR_66_83 w, wK_67 w, wK_68 w, wK_69 w, wK_70 w, wK_71 w, wK_72 w, wK_73 w, wK_74 w, wK_75 w, wK_76 w, wK_77 w, wK_78 w, wK_79 w, wK_80 w, wK_81 w, wK_82 w, wK_83 w, wK_84 w, wK_85 w, wK_86 w, wK_87 w, wK_88 w, wK_89 w, wK_90 w, wK_91 w, wK_92 w, wK_93 w, wK_94 w, wK_95 w, wK_96 w, wK_97 w, wK_98 w, wK_99 w, wK_100 w, wK_101 w, wK_102 w, wK_103 w, wK_104 w, r2, s56, s57, s58]
      try simp (disch := omega) only [a_0, a_1, a_L0, a_L1, a_lt, a_le, a_eq, a_sub, a_addn, nI_add, pk_mul, a_in, nI_clamp, a_eqn, a_eqn', a_eqn2, a_n12, eq_self, a_ltn, a_ltn', a_len, a_len', a_shl1, z_shr, fa_and, fa_or, a_tb, a_tb0, a_b0, a_b1, a_bi, a_lc0, a_lcle, a_lcge, a_lclt, a_lcgt, upd_at, upd_ne, updL_at, updL_ne, Nat.reduceAdd, Nat.reduceSub, Nat.reduceMul, Nat.reduceLT, Nat.reduceLeDiff, Nat.reduceEqDiff, true_and, and_true, if_true, if_false, reduceIte, ne_eq, not_false_eq_true, not_true_eq_false, true_implies, false_implies, Nat.not_lt, Nat.not_le, Nat.le_refl, Nat.add_sub_cancel, Nat.lt_irrefl, Nat.not_lt_zero, Nat.zero_le, Nat.testBit_shiftRight, Nat.add_zero, reduceCtorEq, true_or, or_true, or_false, false_or, Bool.true_eq_false, Bool.false_eq_true, Bool.not_eq_false, Bool.not_eq_true, Decidable.not_not, wK_66 w, wR_66_3 w, wR_66_4 w, wR_66_5 w, wR_66_7 w, wR_66_10 w, wR_66_11 w, wR_66_12 w, wR_66_13 w, wR_66_14 w, wR_66_20 w, wR_66_22 w, wR_66_23 w, wR_66_24 w, wR_66_25 w, wR_66_26 w, wR_66_29 w, wR_66_30 w, wR_66_32 w, wR_66_33 w, wR_66_34 w, wR_66_38 w, wR_66_39 w, wR_66_40 w, wR_66_41 w, wR_66_42 w, wR_66_43 w, wR_66_44 w, wR_66_51 w, wR_66_55 w, wR_66_59 w, wR_66_60 w, wR_66_61 w, wR_66_66 w, wR_66_70 w, wR_66_74 w, wR_66_77 w, wR_66_81 w, wR_66_83 w, wK_67 w, wK_68 w, wK_69 w, wK_70 w, wK_71 w, wK_72 w, wK_73 w, wK_74 w, wK_75 w, wK_76 w, wK_77 w, wK_78 w, wK_79 w, wK_80 w, wK_81 w, wK_82 w, wK_83 w, wK_84 w, wK_85 w, wK_86 w, wK_87 w, wK_88 w, wK_89 w, wK_90 w, wK_91 w, wK_92 w, wK_93 w, wK_94 w, wK_95 w, wK_96 w, wK_97 w, wK_98 w, wK_99 w, wK_100 w, wK_101 w, wK_102 w, wK_103 w, wK_104 w, r2, s56, s57, s58]
      repeat (first | refine ⟨fun _ => ?_, fun c => absurd c (by omega)⟩ | refine ⟨fun c => absurd c (by omega), fun _ => ?_⟩)
      refine ih y i k (r - 1) h2 (T0 ++ [(x, i, j - i)]) _ (by omega) (by omega) w M2 hc2 K2 k1 (by omega) sR.2.1 sp.2.2.1 T2 (by simp; omega) (fun h4 Ta f4 ta T4 => ?_)
      have la := TreeR_len _ _ _ _ _ ta
      have f5 : FM [56, 57, 58, 62] [96, 97, 98] [] h h4 := FM_tr f3 f4 (by simp) (by simp) (by simp)
      have w := FM_W f5 w0
      have M4 := MR_fm f4 (by simp) (by simp) M2
      have hc4 : kI h4 66 31 = nI C.length := by rw [f4.2 31 (by simp)]; exact hc2
      have K4 : HM h4 B P C u := by unfold HM; rw [FM_I f4 (a := 95) (by simp) (by omega)]; exact K2
      simp only [ks_nop, ks_aload_0, ks_iload_1, ks_iload_2, ks_iload_3, ks_iload, ks_istore, ks_iconst, ks_iadd, ks_isub, ks_dup_i, ks_dup_r, ks_icmp_ne, ks_get0, ks_get3, ks_get1, ks_get2, ks_put0, ks_put1, ks_put2, ks_put3, ks_iast, ks_inv0, ks_inv1, ks_inv2, ks_inv4, ks_inv3, ks_inv5, ks_inv6, ks_inv7, ks_inv8, ks_vret, kldi_0, kldl_0, klda_0, kldz_0, kst1_0, kst2_0, kldi_1, kldl_1, klda_1, kldz_1, kst1_1n, kst2_1n, kst1_1i, kst2_1i, kst1_1r, kst2_1r, kst1_1z, kst2_1z, kst1_1l, kst2_1l, kldi_2, kldl_2, klda_2, kldz_2, kst1_2n, kst2_2n, kst1_2i, kst2_2i, kst1_2r, kst2_2r, kst1_2z, kst2_2z, kst1_2l, kst2_2l, kldi_3, kldl_3, klda_3, kldz_3, kst1_3n, kst2_3n, kst1_3i, kst2_3i, kst1_3r, kst2_3r, kst1_3z, kst2_3z, kst1_3l, kst2_3l, kldi_4, kldl_4, klda_4, kldz_4, kst1_4n, kst2_4n, kst1_4i, kst2_4i, kst1_4r, kst2_4r, kst1_4z, kst2_4z, kst1_4l, kst2_4l, kldi_5, kldl_5, klda_5, kldz_5, kst1_5n, kst2_5n, kst1_5i, kst2_5i, kst1_5r, kst2_5r, kst1_5z, kst2_5z, kst1_5l, kst2_5l, kpr_r, kcat_n, kcat_i, kcat_r, kcat_z, kcat_l, kargs_0, kargs_s, kret_v, kret_n, kret_x, jX12_grows_0, bX12_grows_0, jX12_grows_50, bX12_grows_50, Nat.reduceAdd, Nat.reduceLeDiff, Nat.reduceEqDiff, Nat.reduceSub, Nat.zero_le, Nat.add_left_cancel_iff, true_and, and_true, if_true, if_false, reduceIte, ne_eq, not_false_eq_true, Nat.add_eq_left, Nat.left_eq_add, kI_sI, kL_sI, kR_sI, kK_sI, kI_sL, kL_sL, kR_sL, kK_sL, kI_sIA, kL_sIA, kR_sIA, kK_sIA, kI_sLA, kL_sLA, kR_sLA, kK_sLA, wK_66 w, wR_66_3 w, wR_66_4 w, wR_66_5 w, wR_66_7 w, wR_66_10 w, wR_66_11 w, wR_66_12 w, wR_66_13 w, wR_66_14 w, wR_66_20 w, wR_66_22 w, wR_66_23 w, wR_66_24 w, wR_66_25 w, wR_66_26 w, wR_66_29 w, wR_66_30 w, wR_66_32 w, wR_66_33 w, wR_66_34 w, wR_66_38 w, wR_66_39 w, wR_66_40 w, wR_66_41 w, wR_66_42 w, wR_66_43 w, wR_66_44 w, wR_66_51 w, wR_66_55 w, wR_66_59 w, wR_66_60 w, wR_66_61 w, wR_66_66 w, wR_66_70 w, wR_66_74 w, wR_66_77 w, wR_66_81 w, wR_66_83 w, wK_67 w, wK_68 w, wK_69 w, wK_70 w, wK_71 w, wK_72 w, wK_73 w, wK_74 w, wK_75 w, wK_76 w, wK_77 w, wK_78 w, wK_79 w, wK_80 w, wK_81 w, wK_82 w, wK_83 w, wK_84 w, wK_85 w, wK_86 w, wK_87 w, wK_88 w, wK_89 w, wK_90 w, wK_91 w, wK_92 w, wK_93 w, wK_94 w, wK_95 w, wK_96 w, wK_97 w, wK_98 w, wK_99 w, wK_100 w, wK_101 w, wK_102 w, wK_103 w, wK_104 w, r2]
      try simp (disch := omega) only [a_0, a_1, a_L0, a_L1, a_lt, a_le, a_eq, a_sub, a_addn, nI_add, pk_mul, a_in, nI_clamp, a_eqn, a_eqn', a_eqn2, a_n12, eq_self, a_ltn, a_ltn', a_len, a_len', a_shl1, z_shr, fa_and, fa_or, a_tb, a_tb0, a_b0, a_b1, a_bi, a_lc0, a_lcle, a_lcge, a_lclt, a_lcgt, upd_at, upd_ne, updL_at, updL_ne, Nat.reduceAdd, Nat.reduceSub, Nat.reduceMul, Nat.reduceLT, Nat.reduceLeDiff, Nat.reduceEqDiff, true_and, and_true, if_true, if_false, reduceIte, ne_eq, not_false_eq_true, not_true_eq_false, true_implies, false_implies, Nat.not_lt, Nat.not_le, Nat.le_refl, Nat.add_sub_cancel, Nat.lt_irrefl, Nat.not_lt_zero, Nat.zero_le, Nat.testBit_shiftRight, Nat.add_zero, reduceCtorEq, true_or, or_true, or_false, false_or, Bool.true_eq_false, Bool.false_eq_true, Bool.not_eq_false, Bool.not_eq_true, Decidable.not_not, wK_66 w, wR_66_3 w, wR_66_4 w, wR_66_5 w, wR_66_7 w, wR_66_10 w, wR_66_11 w, wR_66_12 w, wR_66_13 w, wR_66_14 w, wR_66_20 w, wR_66_22 w, wR_66_23 w, wR_66_24 w, wR_66_25 w, wR_66_26 w, wR_66_29 w, wR_66_30 w, wR_66_32 w, wR_66_33 w, wR_66_34 w, wR_66_38 w, wR_66_39 w, wR_66_40 w, wR_66_41 w, wR_66_42 w, wR_66_43 w, wR_66_44 w, wR_66_51 w, wR_66_55 w, wR_66_59 w, wR_66_60 w, wR_66_61 w, wR_66_66 w, wR_66_70 w, wR_66_74 w, wR_66_77 w, wR_66_81 w, wR_66_83 w, wK_67 w, wK_68 w, wK_69 w, wK_70 w, wK_71 w, wK_72 w, wK_73 w, wK_74 w, wK_75 w, wK_76 w, wK_77 w, wK_78 w, wK_79 w, wK_80 w, wK_81 w, wK_82 w, wK_83 w, wK_84 w, wK_85 w, wK_86 w, wK_87 w, wK_88 w, wK_89 w, wK_90 w, wK_91 w, wK_92 w, wK_93 w, wK_94 w, wK_95 w, wK_96 w, wK_97 w, wK_98 w, wK_99 w, wK_100 w, wK_101 w, wK_102 w, wK_103 w, wK_104 w, r2]
      repeat (first | refine ⟨fun _ => ?_, fun c => absurd c (by omega)⟩ | refine ⟨fun c => absurd c (by omega), fun _ => ?_⟩)
      refine ih z k j (r - 1) h4 (T0 ++ [(x, i, j - i)] ++ Ta) _ (by omega) (by omega) w M4 hc4 K4 k2 (by omega) sR.2.2.1 sp.2.2.2.1 T4 (by simp; omega) (fun h6 Tb f6 tb T6 => ?_)
      simp only [ks_nop, ks_aload_0, ks_iload_1, ks_iload_2, ks_iload_3, ks_iload, ks_istore, ks_iconst, ks_iadd, ks_isub, ks_dup_i, ks_dup_r, ks_icmp_ne, ks_get0, ks_get3, ks_get1, ks_get2, ks_put0, ks_put1, ks_put2, ks_put3, ks_iast, ks_inv0, ks_inv1, ks_inv2, ks_inv4, ks_inv3, ks_inv5, ks_inv6, ks_inv7, ks_inv8, ks_vret, kldi_0, kldl_0, klda_0, kldz_0, kst1_0, kst2_0, kldi_1, kldl_1, klda_1, kldz_1, kst1_1n, kst2_1n, kst1_1i, kst2_1i, kst1_1r, kst2_1r, kst1_1z, kst2_1z, kst1_1l, kst2_1l, kldi_2, kldl_2, klda_2, kldz_2, kst1_2n, kst2_2n, kst1_2i, kst2_2i, kst1_2r, kst2_2r, kst1_2z, kst2_2z, kst1_2l, kst2_2l, kldi_3, kldl_3, klda_3, kldz_3, kst1_3n, kst2_3n, kst1_3i, kst2_3i, kst1_3r, kst2_3r, kst1_3z, kst2_3z, kst1_3l, kst2_3l, kldi_4, kldl_4, klda_4, kldz_4, kst1_4n, kst2_4n, kst1_4i, kst2_4i, kst1_4r, kst2_4r, kst1_4z, kst2_4z, kst1_4l, kst2_4l, kldi_5, kldl_5, klda_5, kldz_5, kst1_5n, kst2_5n, kst1_5i, kst2_5i, kst1_5r, kst2_5r, kst1_5z, kst2_5z, kst1_5l, kst2_5l, kpr_r, kcat_n, kcat_i, kcat_r, kcat_z, kcat_l, kargs_0, kargs_s, kret_v, kret_n, kret_x, jX12_grows_0, bX12_grows_0, jX12_grows_50, bX12_grows_50, Nat.reduceAdd, Nat.reduceLeDiff, Nat.reduceEqDiff, Nat.reduceSub, Nat.zero_le, Nat.add_left_cancel_iff, true_and, and_true, if_true, if_false, reduceIte, ne_eq, not_false_eq_true, Nat.add_eq_left, Nat.left_eq_add, kI_sI, kL_sI, kR_sI, kK_sI, kI_sL, kL_sL, kR_sL, kK_sL, kI_sIA, kL_sIA, kR_sIA, kK_sIA, kI_sLA, kL_sLA, kR_sLA, kK_sLA]
      try simp (disch := omega) only [a_0, a_1, a_L0, a_L1, a_lt, a_le, a_eq, a_sub, a_addn, nI_add, pk_mul, a_in, nI_clamp, a_eqn, a_eqn', a_eqn2, a_n12, eq_self, a_ltn, a_ltn', a_len, a_len', a_shl1, z_shr, fa_and, fa_or, a_tb, a_tb0, a_b0, a_b1, a_bi, a_lc0, a_lcle, a_lcge, a_lclt, a_lcgt, upd_at, upd_ne, updL_at, updL_ne, Nat.reduceAdd, Nat.reduceSub, Nat.reduceMul, Nat.reduceLT, Nat.reduceLeDiff, Nat.reduceEqDiff, true_and, and_true, if_true, if_false, reduceIte, ne_eq, not_false_eq_true, not_true_eq_false, true_implies, false_implies, Nat.not_lt, Nat.not_le, Nat.le_refl, Nat.add_sub_cancel, Nat.lt_irrefl, Nat.not_lt_zero, Nat.zero_le, Nat.testBit_shiftRight, Nat.add_zero, reduceCtorEq, true_or, or_true, or_false, false_or, Bool.true_eq_false, Bool.false_eq_true, Bool.not_eq_false, Bool.not_eq_true, Decidable.not_not]
      repeat (first | refine ⟨fun _ => ?_, fun c => absurd c (by omega)⟩ | refine ⟨fun c => absurd c (by omega), fun _ => ?_⟩)
      refine H h6 ((x, i, j - i) :: (Ta ++ Tb)) (FM_tr f5 f6 (by simp) (by simp) (by simp)) (Or.inr ⟨by omega, k, y, z, Ta, Tb, sp, ta, tb, rfl⟩) ?_
      have e : T0 ++ (x, i, j - i) :: (Ta ++ Tb) = T0 ++ [(x, i, j - i)] ++ Ta ++ Tb := by simp
      rw [e]; exact T6
    · refine H h1 [(x, i, 1)] gf (Or.inl ⟨c, rfl⟩) ?_
      rw [show j - i = 1 by omega] at T1
      exact T1
end RF

/-! feed, of both -/
def fdT (t : List Nat) (a b c d e : Int32) : List Nat := if t.length ≤ 380 then t ++ by20 a b c d e else t
def rFeed (t : List Nat) : RS := .inl (if t.length ≤ 380 then nI (t.length + 20) else -nI 1)
theorem by4_len (v : Int32) : (by4 v).length = 4 := rfl
theorem by20_len (a b c d e : Int32) : (by20 a b c d e).length = 20 := rfl
theorem by4_b (v : Int32) : ∀ x ∈ by4 v, x < 256 := by
  intro x hx
  simp [by4] at hx
  omega
theorem fdT_ok {t : List Nat} (h1 : t.length ≤ 400) (h2 : ∀ i, t.getD i 0 < 256) (a b c d e : Int32) : (fdT t a b c d e).length ≤ 400 ∧ ∀ i, (fdT t a b c d e).getD i 0 < 256 := by
  unfold fdT
  split
  · refine ⟨by rw [List.length_append, by20_len]; omega, fun i => ?_⟩
    by_cases q : i < t.length
    · rw [getD_l q]; exact h2 i
    · by_cases q2 : i < (t ++ by20 a b c d e).length
      · have m := getD_mem q2
        rcases List.mem_append.mp m with z | z
        · obtain ⟨k, hk, ek⟩ := List.mem_iff_getElem.mp z
          have := h2 k
          rw [List.getD_eq_getElem?_getD, List.getElem?_eq_getElem hk] at this
          rw [← ek]; exact this
        · unfold by20 at z
          rcases List.mem_append.mp z with z | z
          · exact by4_b _ _ z
          · rcases List.mem_append.mp z with z | z
            · exact by4_b _ _ z
            · rcases List.mem_append.mp z with z | z
              · exact by4_b _ _ z
              · rcases List.mem_append.mp z with z | z
                · exact by4_b _ _ z
                · exact by4_b _ _ z
      · rw [List.getD_eq_getElem?_getD, List.getElem?_eq_none (by omega)]
        show 0 < 256
        omega
  · exact ⟨h1, h2⟩
section OP
variable {r : Nat} {h h' : KH} {Q : KO → KH → Prop} {t t' : List Nat} {fp : Int32} {B : GB} {nn : Nat} {P : List (List Nat)} {C : CL} {A : List (List Nat)} {ls : LSn} {lk wr : Nat} {T : TN} {sd : List Nat}
theorem cq_feed {a b c d e : Int32} (hr : 8 ≤ r) (K : CI h t fp B nn P C A ls lk wr T sd) (W : WFA t B nn P C A ls T sd) (H : ∀ h', CI h' (fdT t a b c d e) fp B nn P C A ls lk wr T sd → FG h h' → Q (exC ecN (rFeed t)) h') : kCalls r yX11_feed [.ref 1, .int a, .int b, .int c, .int d, .int e] h Q := by
  have K0 := K
  obtain ⟨g, a', b', c', d', N, e', s, Kx⟩ := K
  obtain ⟨⟨w, hk⟩, k1, k2, k3, ⟨k4, k5, k6⟩, k7, k8, k9, k10, wy, ⟨p1, p2, _⟩⟩ := id Kx
  have p2' := p2
  unfold isD at p2'
  refine c_feed (by omega) w k7 W.2.1.1 (fun q => ?_) (fun q f g' tp => ?_)
  · have := H h (by unfold fdT; rw [if_neg (by omega)]; exact K0) (FG_rf h)
    unfold rFeed at this
    rw [if_neg (by omega)] at this
    exact this
  · have fr : Fr [26, 27] [] h (sIA (sIA h 27 f) 26 g') := Fr_sIA (Fr_sIA (Fr_rf _ _ _) (by simp)) (by simp)
    have K2 : CIx (sIA (sIA h 27 f) 26 g') (t ++ by20 a b c d e) fp B nn P C A ls lk wr T sd g a' b' c' d' N e' s := CIx_mk fr.1 (fr.2.1 1 (by simp)) (fr.2.1 s (by simp; omega)) (fr.2.1 64 (by simp)) (fr.2.1 50 (by simp)) (fr.2.1 53 (by simp)) (Zg_fr fr (by simp) (by simp) 2 (by omega) k5) (Zg_fr fr (by simp) (by simp) 14 (by omega) k6) (CK_fr fr (by decide) (by simp) k1) (CS_fr fr (by decide) (by simp) k2) (by rw [kI_sIA, if_neg (by omega), kI_sIA, if_pos rfl, kI_sIA, if_pos rfl]; exact tp) (CLo_eq (fr.2.1 62 (by simp)) (fr.2.1 63 (by simp)) (fr.2.2 62 (by simp)) k9) Kx
    have := H _ (by unfold fdT; rw [if_pos q]; exact ⟨g, a', b', c', d', N, e', s, K2⟩) (FG_of (FC_fr fr (by simp) (by simp)))
    unfold rFeed at this
    rw [if_pos q] at this
    exact this
theorem RI_feed (f : FM [0, 15] [75] [] h h') (tp : tpA (kI h' 75) (kI h' 66) 15 t') (K : RI h t fp B nn P C A ls lk wr T sd) : RI h' t' fp B nn P C A ls lk wr T sd := by
  obtain ⟨⟨k1, k2, k3⟩, k4, k5, k6, ⟨k7, k8⟩, k9, k10, k11, k12, k13, k14, k15⟩ := K
  refine ⟨⟨MS_fm f (by simp) (by simp) k1, MB_fm f (by simp) (by simp) (by simp) (by simp) (by simp) k2, by rw [f.2 1 (by simp)]; exact k3⟩, MF_fm f (by simp) (by simp) (by simp) (by simp) (by simp) (by simp) (by simp) (by simp) (by simp) k4, MR_fm f (by simp) (by simp) k5, ?_, ⟨ML_fm f (by simp) (by simp) k7, MTo_fm f (by simp) k8⟩, AM_fm f (by simp) (by simp) (by simp) (by simp) (by simp) k9, tp, by rw [f.2 19 (by simp)]; exact k11, by rw [f.2 35 (by simp)]; exact k12, ?_, ?_, MSd_fm f (by simp) (by simp) k15⟩
  · obtain ⟨b, b1, b2⟩ := k6
    refine ⟨b, by rw [f.2 27 (by simp)]; exact b1, fun q => ?_⟩
    have := b2 q
    unfold MHa
    rw [FM_I f (a := 81) (by simp) (by omega)]; exact this
  · unfold MLo at k13 ⊢
    cases ls with
    | none => rw [f.2 45 (by simp), f.2 53 (by simp), f.2 54 (by simp)]; exact k13
    | some v =>
      obtain ⟨u, was, cp, cc, x, y, z⟩ := v
      simp only [MLs] at k13 ⊢
      rw [f.2 45 (by simp), f.2 46 (by simp), f.2 47 (by simp), f.2 48 (by simp), f.2 49 (by simp), f.2 50 (by simp), f.2 52 (by simp), FM_I f (a := 94) (by simp) (by omega), f.2 53 (by simp), f.2 54 (by simp)]
      exact k13
  · unfold TM at k14 ⊢
    rw [f.2 62 (by simp), FM_I f (a := 96) (by simp) (by omega), FM_I f (a := 97) (by simp) (by omega), FM_I f (a := 98) (by simp) (by omega)]
    exact k14
theorem c_comes {v : Int32} (w : kW h) (tp : tpA (kI h 75) (kI h 66) 15 t) (hl : t.length + 4 ≤ 400) (H : ∀ h', FM [0, 15] [75] [] h h' → (kI h' 66 0 = kI h 66 0) → tpA (kI h' 75) (kI h' 66) 15 (t ++ by4 v) → Q (.inl none) h') : kCalls r yX12_comes [.ref 66, .int v] h Q := by
  have w0 := w
  have step : ∀ (t' : List Nat) (sh : Nat) h1, FM [0, 15] [75] [] h h1 → kI h1 66 0 = kI h 66 0 → tpA (kI h1 75) (kI h1 66) 15 t' → t'.length < 400 → sh + 8 ≤ 32 → (∀ h2, FM [0, 15] [75] [] h h2 → kI h2 66 0 = kI h 66 0 → tpA (kI h2 75) (kI h2 66) 15 (t' ++ [uI v / 2 ^ sh % 256]) → kRun r mX12_comes 3 [some (.ref 66), some (.int v), some (.int (nI sh + -nI 8))] [] h2 Q) → kRun r mX12_comes 3 [some (.ref 66), some (.int v), some (.int (nI sh))] [] h1 Q := by
    intro t' sh h1 f e0 tp1 ht hs KK
    have w := FM_W f w0
    have t15 := tp1.1
    refine eX12_comes_3 ?_
    simp only [ks_nop, ks_aload_0, ks_iload_1, ks_iload_2, ks_istore_2, ks_iconst, ks_bipush, ks_sipush, ks_iinc, ks_iadd, ks_iand, ks_ishr, ks_dup_i, ks_dup_r, ks_if_lt, ks_goto, ks_get0, ks_get3, ks_get1, ks_get2, ks_put0, ks_put1, ks_put2, ks_put3, ks_iast, ks_vret, kldi_0, kldl_0, klda_0, kldz_0, kst1_0, kst2_0, kldi_1, kldl_1, klda_1, kldz_1, kst1_1n, kst2_1n, kst1_1i, kst2_1i, kst1_1r, kst2_1r, kst1_1z, kst2_1z, kst1_1l, kst2_1l, kldi_2, kldl_2, klda_2, kldz_2, kst1_2n, kst2_2n, kst1_2i, kst2_2i, kst1_2r, kst2_2r, kst1_2z, kst2_2z, kst1_2l, kst2_2l, kcat_n, kcat_i, kcat_r, kcat_z, kcat_l, zm_8, zl_24, zl_255, jX12_comes_0, bX12_comes_0, jX12_comes_3, bX12_comes_3, jX12_comes_39, bX12_comes_39, Nat.reduceAdd, Nat.reduceLeDiff, Nat.reduceEqDiff, Nat.reduceSub, Nat.zero_le, Nat.add_left_cancel_iff, true_and, and_true, if_true, if_false, reduceIte, ne_eq, not_false_eq_true, Nat.add_eq_left, Nat.left_eq_add, kI_q, kI_sI, kR_sI, kK_sI, wK_66 w, wR_66_3 w, wR_66_4 w, wR_66_5 w, wR_66_7 w, wR_66_10 w, wR_66_11 w, wR_66_12 w, wR_66_13 w, wR_66_14 w, wR_66_20 w, wR_66_22 w, wR_66_23 w, wR_66_24 w, wR_66_25 w, wR_66_26 w, wR_66_29 w, wR_66_30 w, wR_66_32 w, wR_66_33 w, wR_66_34 w, wR_66_38 w, wR_66_39 w, wR_66_40 w, wR_66_41 w, wR_66_42 w, wR_66_43 w, wR_66_44 w, wR_66_51 w, wR_66_55 w, wR_66_59 w, wR_66_60 w, wR_66_61 w, wR_66_66 w, wR_66_70 w, wR_66_74 w, wR_66_77 w, wR_66_81 w, wR_66_83 w, wK_67 w, wK_68 w, wK_69 w, wK_70 w, wK_71 w, wK_72 w, wK_73 w, wK_74 w, wK_75 w, wK_76 w, wK_77 w, wK_78 w, wK_79 w, wK_80 w, wK_81 w, wK_82 w, wK_83 w, wK_84 w, wK_85 w, wK_86 w, wK_87 w, wK_88 w, wK_89 w, wK_90 w, wK_91 w, wK_92 w, wK_93 w, wK_94 w, wK_95 w, wK_96 w, wK_97 w, wK_98 w, wK_99 w, wK_100 w, wK_101 w, wK_102 w, wK_103 w, wK_104 w, t15]
    refine ⟨fun z => absurd z (by rw [a_0, a_lt (by omega) (by omega)]; omega), fun _ => ?_⟩
    rw [z_byte v hs]
    try simp (disch := omega) only [a_0, a_1, a_L0, a_L1, a_lt, a_le, a_eq, a_sub, a_addn, nI_add, pk_mul, a_in, nI_clamp, a_eqn, a_eqn', a_eqn2, a_n12, eq_self, a_ltn, a_ltn', a_len, a_len', a_shl1, z_shr, fa_and, fa_or, a_tb, a_tb0, a_b0, a_b1, a_bi, a_lc0, a_lcle, a_lcge, a_lclt, a_lcgt, upd_at, upd_ne, updL_at, updL_ne, Nat.reduceAdd, Nat.reduceSub, Nat.reduceMul, Nat.reduceLT, Nat.reduceLeDiff, Nat.reduceEqDiff, true_and, and_true, if_true, if_false, reduceIte, ne_eq, not_false_eq_true, not_true_eq_false, true_implies, false_implies, Nat.not_lt, Nat.not_le, Nat.le_refl, Nat.add_sub_cancel, Nat.lt_irrefl, Nat.not_lt_zero, Nat.zero_le, Nat.testBit_shiftRight, Nat.add_zero, reduceCtorEq, true_or, or_true, or_false, false_or, Bool.true_eq_false, Bool.false_eq_true, Bool.not_eq_false, Bool.not_eq_true, Decidable.not_not]
    try simp only [nI_add]
    refine KK (sI (sI h1 75 t'.length (nI (uI v / 2 ^ sh % 256))) 66 15 (nI (t'.length + 1))) (FM_put (FM_sI f (by simp) (by omega)) (by simp)) ?_ ?_
    · rw [kI_q, if_neg (by omega), kI_sI, if_neg (by omega)]; exact e0
    · have := tpA_snoc (b := uI v / 2 ^ sh % 256) tp1
      rw [kI_sI, if_neg (by omega), kI_sI, if_pos rfl, kI_sI, if_pos rfl, kI_sI, if_neg (by omega)]
      exact this
  refine sX12_comes _ _ ?_
  refine eX12_comes_0 ?_
  simp only [ks_nop, ks_aload_0, ks_iload_1, ks_iload_2, ks_istore_2, ks_iconst, ks_bipush, ks_sipush, ks_iinc, ks_iadd, ks_iand, ks_ishr, ks_dup_i, ks_dup_r, ks_if_lt, ks_goto, ks_get0, ks_get3, ks_get1, ks_get2, ks_put0, ks_put1, ks_put2, ks_put3, ks_iast, ks_vret, kldi_0, kldl_0, klda_0, kldz_0, kst1_0, kst2_0, kldi_1, kldl_1, klda_1, kldz_1, kst1_1n, kst2_1n, kst1_1i, kst2_1i, kst1_1r, kst2_1r, kst1_1z, kst2_1z, kst1_1l, kst2_1l, kldi_2, kldl_2, klda_2, kldz_2, kst1_2n, kst2_2n, kst1_2i, kst2_2i, kst1_2r, kst2_2r, kst1_2z, kst2_2z, kst1_2l, kst2_2l, kcat_n, kcat_i, kcat_r, kcat_z, kcat_l, zm_8, zl_24, zl_255, jX12_comes_0, bX12_comes_0, jX12_comes_3, bX12_comes_3, jX12_comes_39, bX12_comes_39, Nat.reduceAdd, Nat.reduceLeDiff, Nat.reduceEqDiff, Nat.reduceSub, Nat.zero_le, Nat.add_left_cancel_iff, true_and, and_true, if_true, if_false, reduceIte, ne_eq, not_false_eq_true, Nat.add_eq_left, Nat.left_eq_add, kI_sI, kL_sI, kR_sI, kK_sI, kI_sL, kL_sL, kR_sL, kK_sL, kI_sIA, kL_sIA, kR_sIA, kK_sIA, kI_sLA, kL_sLA, kR_sLA, kK_sLA]
  refine step t 24 h (FM_rf _ _ _ _) rfl tp (by omega) (by omega) (fun h1 f1 e1 t1 => ?_)
  rw [nI_addn (by omega)]
  refine step _ 16 h1 f1 e1 t1 (by simp; omega) (by omega) (fun h2 f2 e2 t2 => ?_)
  rw [nI_addn (by omega)]
  refine step _ 8 h2 f2 e2 t2 (by simp; omega) (by omega) (fun h3 f3 e3 t3 => ?_)
  rw [nI_addn (by omega)]
  refine step _ 0 h3 f3 e3 t3 (by simp; omega) (by omega) (fun h4 f4 e4 t4 => ?_)
  refine eX12_comes_3 ?_
  simp only [ks_nop, ks_aload_0, ks_iload_1, ks_iload_2, ks_istore_2, ks_iconst, ks_bipush, ks_sipush, ks_iinc, ks_iadd, ks_iand, ks_ishr, ks_dup_i, ks_dup_r, ks_if_lt, ks_goto, ks_get0, ks_get3, ks_get1, ks_get2, ks_put0, ks_put1, ks_put2, ks_put3, ks_iast, ks_vret, kldi_0, kldl_0, klda_0, kldz_0, kst1_0, kst2_0, kldi_1, kldl_1, klda_1, kldz_1, kst1_1n, kst2_1n, kst1_1i, kst2_1i, kst1_1r, kst2_1r, kst1_1z, kst2_1z, kst1_1l, kst2_1l, kldi_2, kldl_2, klda_2, kldz_2, kst1_2n, kst2_2n, kst1_2i, kst2_2i, kst1_2r, kst2_2r, kst1_2z, kst2_2z, kst1_2l, kst2_2l, kcat_n, kcat_i, kcat_r, kcat_z, kcat_l, zm_8, zl_24, zl_255, jX12_comes_0, bX12_comes_0, jX12_comes_3, bX12_comes_3, jX12_comes_39, bX12_comes_39, Nat.reduceAdd, Nat.reduceLeDiff, Nat.reduceEqDiff, Nat.reduceSub, Nat.zero_le, Nat.add_left_cancel_iff, true_and, and_true, if_true, if_false, reduceIte, ne_eq, not_false_eq_true, Nat.add_eq_left, Nat.left_eq_add]
  refine ⟨fun _ => H h4 f4 e4 (by simpa [by4] using t4), fun z => absurd (by decide) z⟩
end OP

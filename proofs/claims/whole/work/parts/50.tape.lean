/-! the tape, on both sides -/
def uI (v : Int32) : Nat := v.toBitVec.toNat
def by4 (v : Int32) : List Nat := [uI v / 2 ^ 24 % 256, uI v / 2 ^ 16 % 256, uI v / 2 ^ 8 % 256, uI v / 2 ^ 0 % 256]
theorem z_sb : ∀ k, k < 32 → ((nI k &&& 31).toBitVec.smod 32) = BitVec.ofNat 32 k := by decide
theorem z_byte (v : Int32) {k : Nat} (hk : k + 8 ≤ 32) : kshr v (nI k) &&& nI 255 = nI (uI v / 2 ^ k % 256) := by
  apply z_inj
  apply BitVec.eq_of_getLsbD_eq
  intro i hi
  rw [Int32.toBitVec_and, kshr, Int32.toBitVec_shiftRight, z_sb k (by omega), z_bv, z_bv]
  have h255 : Nat.testBit 255 i = decide (i < 8) := by
    have := Nat.testBit_two_pow_sub_one 8 i
    exact this
  have hmod : (uI v / 2 ^ k % 256).testBit i = (decide (i < 8) && (uI v).testBit (k + i)) := by
    rw [show (256 : Nat) = 2 ^ 8 from rfl, Nat.testBit_mod_two_pow, ← Nat.shiftRight_eq_div_pow, Nat.testBit_shiftRight]
  rw [BitVec.getLsbD_and, BitVec.getLsbD_ofNat, BitVec.getLsbD_ofNat, h255, hmod, show v.toBitVec.sshiftRight' (BitVec.ofNat 32 k) = v.toBitVec.sshiftRight ((BitVec.ofNat 32 k).toNat) from rfl, BitVec.getLsbD_sshiftRight, BitVec.toNat_ofNat]
  simp only [hi, decide_true, Bool.true_and]
  rw [show k % 2 ^ 32 = k by omega]
  by_cases h8 : i < 8
  · simp only [h8, decide_true, Bool.and_true, Bool.true_and, show k + i < 32 by omega, if_true, show ¬ 32 ≤ i by omega, decide_false, Bool.not_false]
    rfl
  · simp [h8]
def tpA (f g : Nat → Int32) (j : Nat) (t : List Nat) : Prop := g j = nI t.length ∧ ∀ i, i < t.length → f i = nI (t.getD i 0)
theorem tpA_snoc {f g : Nat → Int32} {j : Nat} {t : List Nat} {b : Nat} (h : tpA f g j t) : tpA (upd f t.length (nI b)) (upd g j (nI (t.length + 1))) j (t ++ [b]) := by
  refine ⟨by simp [upd], fun i hi => ?_⟩
  simp only [List.length_append, List.length_cons, List.length_nil] at hi
  simp only [upd, List.getD_eq_getElem?_getD]
  by_cases e : i = t.length
  · subst e; simp
  · rw [if_neg e, h.2 i (by omega), List.getElem?_append_left (by omega), List.getD_eq_getElem?_getD]
theorem s2 (h : KH) {a b : Nat} (f g f2 g2 : Nat → Int32) (hab : a ≠ b) : sIA (sIA (sIA (sIA h a f) b g) a f2) b g2 = sIA (sIA h a f2) b g2 := by
  rw [sIA_cm (sIA h a f) g f2 (Ne.symm hab), sIA_A, sIA_A]
section TP
variable {r : Nat} {h : KH} {Q : KO → KH → Prop}
theorem c_put {t : List Nat} {v : Int32} (w : kW h) (T : tpA (kI h 27) (kI h 26) 1 t) (hl : t.length + 4 ≤ 400) (H : ∀ f g, tpA f g 1 (t ++ by4 v) → Q (.inl none) (sIA (sIA h 27 f) 26 g)) : kCalls r yX9_put [.ref 26, .int v] h Q := by
  refine sX9_put _ _ ?_
  refine eX9_put_0 ?_
  simp only [ks_nop, ks_aload_0, ks_iload_1, ks_iload_2, ks_istore_2, ks_iconst, ks_bipush, ks_sipush, ks_iinc, ks_iadd, ks_iand, ks_ishr, ks_dup_i, ks_dup_r, ks_if_lt, ks_icmp_ge, ks_goto, ks_get0, ks_get3, ks_get1, ks_get2, ks_put0, ks_put1, ks_put2, ks_put3, ks_iast, ks_vret, kldi_0, kldl_0, klda_0, kldz_0, kst1_0, kst2_0, kldi_1, kldl_1, klda_1, kldz_1, kst1_1n, kst2_1n, kst1_1i, kst2_1i, kst1_1r, kst2_1r, kst1_1z, kst2_1z, kst1_1l, kst2_1l, kldi_2, kldl_2, klda_2, kldz_2, kst1_2n, kst2_2n, kst1_2i, kst2_2i, kst1_2r, kst2_2r, kst1_2z, kst2_2z, kst1_2l, kst2_2l, kcat_n, kcat_i, kcat_r, kcat_z, kcat_l, zm_8, zl_24, zl_255, zl_400, jX9_put_0, bX9_put_0, jX9_put_3, bX9_put_3, jX9_put_43, bX9_put_43, jX9_put_49, bX9_put_49]
  have step : ∀ (t : List Nat) (s : Nat) (f g : Nat → Int32), tpA f g 1 t → t.length < 400 → s + 8 ≤ 32 →
      (∀ f g, tpA f g 1 (t ++ [uI v / 2 ^ s % 256]) → kRun r mX9_put 3 [some (.ref 26), some (.int v), some (.int (nI s + -nI 8))] [] (sIA (sIA h 27 f) 26 g) Q) →
      kRun r mX9_put 3 [some (.ref 26), some (.int v), some (.int (nI s))] [] (sIA (sIA h 27 f) 26 g) Q := by
    intro t s f g hT ht hs K
    refine eX9_put_3 ?_
    simp only [ks_nop, ks_aload_0, ks_iload_1, ks_iload_2, ks_istore_2, ks_iconst, ks_bipush, ks_sipush, ks_iinc, ks_iadd, ks_iand, ks_ishr, ks_dup_i, ks_dup_r, ks_if_lt, ks_icmp_ge, ks_goto, ks_get0, ks_get3, ks_get1, ks_get2, ks_put0, ks_put1, ks_put2, ks_put3, ks_iast, ks_vret, kldi_0, kldl_0, klda_0, kldz_0, kst1_0, kst2_0, kldi_1, kldl_1, klda_1, kldz_1, kst1_1n, kst2_1n, kst1_1i, kst2_1i, kst1_1r, kst2_1r, kst1_1z, kst2_1z, kst1_1l, kst2_1l, kldi_2, kldl_2, klda_2, kldz_2, kst1_2n, kst2_2n, kst1_2i, kst2_2i, kst1_2r, kst2_2r, kst1_2z, kst2_2z, kst1_2l, kst2_2l, kcat_n, kcat_i, kcat_r, kcat_z, kcat_l, zm_8, zl_24, zl_255, zl_400, jX9_put_0, bX9_put_0, jX9_put_3, bX9_put_3, jX9_put_43, bX9_put_43, jX9_put_49, bX9_put_49, kI_sI, kL_sI, kR_sI, kK_sI, kI_sL, kL_sL, kR_sL, kK_sL, kI_sIA, kL_sIA, kR_sIA, kK_sIA, kI_sLA, kL_sLA, kR_sLA, kK_sLA, Nat.reduceAdd, Nat.reduceLeDiff, Nat.reduceEqDiff, Nat.reduceSub, Nat.zero_le, Nat.add_left_cancel_iff, true_and, and_true, if_true, if_false, reduceIte, ne_eq, not_false_eq_true, wK_26 w, wR_26_0 w, wK_27 w, hT.1]
    refine br_f (nI_pos (by omega)) ?_
    refine br_f (nI_ge ht (by omega)) ⟨vp_in_nI ht (by omega), ?_⟩
    rw [z_byte v hs, nI_clamp (by omega), nI_1]
    refine eX9_put_43 ?_
    simp only [ks_nop, ks_aload_0, ks_iload_1, ks_iload_2, ks_istore_2, ks_iconst, ks_bipush, ks_sipush, ks_iinc, ks_iadd, ks_iand, ks_ishr, ks_dup_i, ks_dup_r, ks_if_lt, ks_icmp_ge, ks_goto, ks_get0, ks_get3, ks_get1, ks_get2, ks_put0, ks_put1, ks_put2, ks_put3, ks_iast, ks_vret, kldi_0, kldl_0, klda_0, kldz_0, kst1_0, kst2_0, kldi_1, kldl_1, klda_1, kldz_1, kst1_1n, kst2_1n, kst1_1i, kst2_1i, kst1_1r, kst2_1r, kst1_1z, kst2_1z, kst1_1l, kst2_1l, kldi_2, kldl_2, klda_2, kldz_2, kst1_2n, kst2_2n, kst1_2i, kst2_2i, kst1_2r, kst2_2r, kst1_2z, kst2_2z, kst1_2l, kst2_2l, kcat_n, kcat_i, kcat_r, kcat_z, kcat_l, zm_8, zl_24, zl_255, zl_400, jX9_put_0, bX9_put_0, jX9_put_3, bX9_put_3, jX9_put_43, bX9_put_43, jX9_put_49, bX9_put_49, sI_A, kI_sI, kL_sI, kR_sI, kK_sI, kI_sL, kL_sL, kR_sL, kK_sL, kI_sIA, kL_sIA, kR_sIA, kK_sIA, kI_sLA, kL_sLA, kR_sLA, kK_sLA, Nat.reduceAdd, Nat.reduceLeDiff, Nat.reduceEqDiff, Nat.reduceSub, Nat.zero_le, Nat.add_left_cancel_iff, true_and, and_true, if_true, if_false, reduceIte, ne_eq, not_false_eq_true]
    rw [s2 h f g _ _ (by decide)]
    exact K _ _ (tpA_snoc hT)
  have h0 : h = sIA (sIA h 27 (kI h 27)) 26 (kI h 26) := by
    rw [sIA_id, sIA_id]
  rw [h0]
  refine step t 24 _ _ T (by omega) (by omega) (fun f1 g1 T1 => ?_)
  rw [nI_addn (by omega)]
  refine step _ 16 _ _ T1 (by simp; omega) (by omega) (fun f2 g2 T2 => ?_)
  rw [nI_addn (by omega)]
  refine step _ 8 _ _ T2 (by simp; omega) (by omega) (fun f3 g3 T3 => ?_)
  rw [nI_addn (by omega)]
  refine step _ 0 _ _ T3 (by simp; omega) (by omega) (fun f4 g4 T4 => ?_)
  refine eX9_put_3 ?_
  simp only [ks_nop, ks_aload_0, ks_iload_1, ks_iload_2, ks_istore_2, ks_iconst, ks_bipush, ks_sipush, ks_iinc, ks_iadd, ks_iand, ks_ishr, ks_dup_i, ks_dup_r, ks_if_lt, ks_icmp_ge, ks_goto, ks_get0, ks_get3, ks_get1, ks_get2, ks_put0, ks_put1, ks_put2, ks_put3, ks_iast, ks_vret, kldi_0, kldl_0, klda_0, kldz_0, kst1_0, kst2_0, kldi_1, kldl_1, klda_1, kldz_1, kst1_1n, kst2_1n, kst1_1i, kst2_1i, kst1_1r, kst2_1r, kst1_1z, kst2_1z, kst1_1l, kst2_1l, kldi_2, kldl_2, klda_2, kldz_2, kst1_2n, kst2_2n, kst1_2i, kst2_2i, kst1_2r, kst2_2r, kst1_2z, kst2_2z, kst1_2l, kst2_2l, kcat_n, kcat_i, kcat_r, kcat_z, kcat_l, zm_8, zl_24, zl_255, zl_400, jX9_put_0, bX9_put_0, jX9_put_3, bX9_put_3, jX9_put_43, bX9_put_43, jX9_put_49, bX9_put_49]
  refine br_t (by decide) ?_
  refine H _ _ ?_
  simpa [by4] using T4
theorem c_tapeSize (w : kW h) (H : Q (.inl (some (.int (kI h 26 1)))) h) : kCalls r yX9_size [.ref 26] h Q := by
  refine sX9_size _ ?_
  refine eX9_size_0 ?_
  simp only [ks_nop, ks_aload_0, ks_get0, ks_get3, ks_get1, ks_get2, ks_iret0, kldi_0, kldl_0, klda_0, kldz_0, kst1_0, kst2_0, kcat_n, kcat_i, kcat_r, kcat_z, kcat_l, jX9_size_0, bX9_size_0, Nat.reduceAdd, Nat.reduceLeDiff, Nat.reduceEqDiff, Nat.reduceSub, Nat.zero_le, Nat.add_left_cancel_iff, true_and, and_true, if_true, if_false, reduceIte, ne_eq, not_false_eq_true, wK_26 w, wR_26_0 w, wK_27 w]
  exact ⟨by simp, H⟩
theorem c_tapeClear (w : kW h) (H : Q (.inl none) (sI h 26 1 0)) : kCalls r yX9_clear [.ref 26] h Q := by
  refine sX9_clear _ ?_
  refine eX9_clear_0 ?_
  simp only [ks_nop, ks_aload_0, ks_iconst, ks_put0, ks_put1, ks_put2, ks_put3, ks_vret, kldi_0, kldl_0, klda_0, kldz_0, kst1_0, kst2_0, kcat_n, kcat_i, kcat_r, kcat_z, kcat_l, jX9_clear_0, bX9_clear_0, Nat.reduceAdd, Nat.reduceLeDiff, Nat.reduceEqDiff, Nat.reduceSub, Nat.zero_le, Nat.add_left_cancel_iff, true_and, and_true, if_true, if_false, reduceIte, ne_eq, not_false_eq_true, wK_26 w, wR_26_0 w, wK_27 w]
  exact H
def by20 (a b c d e : Int32) : List Nat := by4 a ++ (by4 b ++ (by4 c ++ (by4 d ++ by4 e)))
theorem kW_sIA {h : KH} {a : Nat} {f : Nat → Int32} (w : kW h) : kW (sIA h a f) := kW_same rfl w
theorem kW_sLA {h : KH} {a : Nat} {f : Nat → Int64} (w : kW h) : kW (sLA h a f) := kW_same rfl w
theorem c_feed {t : List Nat} {a b c d e : Int32} (hr : 3 ≤ r) (w : kW h) (T : tpA (kI h 27) (kI h 26) 1 t) (ht : t.length ≤ 400)
    (H1 : 380 < t.length → Q (.inl (some (.int (-1)))) h) (H2 : t.length ≤ 380 → ∀ f g, tpA f g 1 (t ++ by20 a b c d e) → Q (.inl (some (.int (nI (t.length + 20))))) (sIA (sIA h 27 f) 26 g)) : kCalls r yX11_feed [.ref 1, .int a, .int b, .int c, .int d, .int e] h Q := by
  have r2 : 2 ≤ r := by omega
  refine sX11_feed _ _ _ _ _ _ ?_
  refine eX11_feed_0 ?_
  simp only [ks_nop, ks_aload_0, ks_iload_1, ks_iload_2, ks_iload_3, ks_iload, ks_iconst, ks_sipush, ks_icmp_le, ks_get0, ks_get3, ks_get1, ks_get2, ks_inv0, ks_inv1, ks_inv2, ks_inv4, ks_inv3, ks_inv5, ks_inv6, ks_inv7, ks_iret0, kldi_0, kldl_0, klda_0, kldz_0, kst1_0, kst2_0, kldi_1, kldl_1, klda_1, kldz_1, kst1_1n, kst2_1n, kst1_1i, kst2_1i, kst1_1r, kst2_1r, kst1_1z, kst2_1z, kst1_1l, kst2_1l, kldi_2, kldl_2, klda_2, kldz_2, kst1_2n, kst2_2n, kst1_2i, kst2_2i, kst1_2r, kst2_2r, kst1_2z, kst2_2z, kst1_2l, kst2_2l, kldi_3, kldl_3, klda_3, kldz_3, kst1_3n, kst2_3n, kst1_3i, kst2_3i, kst1_3r, kst2_3r, kst1_3z, kst2_3z, kst1_3l, kst2_3l, kldi_4, kldl_4, klda_4, kldz_4, kst1_4n, kst2_4n, kst1_4i, kst2_4i, kst1_4r, kst2_4r, kst1_4z, kst2_4z, kst1_4l, kst2_4l, kldi_5, kldl_5, klda_5, kldz_5, kst1_5n, kst2_5n, kst1_5i, kst2_5i, kst1_5r, kst2_5r, kst1_5z, kst2_5z, kst1_5l, kst2_5l, kpr_r, kcat_n, kcat_i, kcat_r, kcat_z, kcat_l, kargs_0, kargs_s, kret_v, kret_n, kret_x, zl_380, jX11_feed_0, bX11_feed_0, jX11_feed_15, bX11_feed_15, Nat.reduceAdd, Nat.reduceLeDiff, Nat.reduceEqDiff, Nat.reduceSub, Nat.zero_le, Nat.add_left_cancel_iff, true_and, and_true, if_true, if_false, reduceIte, ne_eq, not_false_eq_true, wK_1 w, wR_1_3 w, wR_1_4 w, wR_1_5 w, wR_1_6 w, wR_1_7 w, wR_1_8 w, wR_1_9 w, wR_1_10 w, wR_1_11 w, wR_1_12 w, wK_26 w, wR_26_0 w, wK_27 w, r2]
  refine c_tapeSize w ?_
  simp only [ks_nop, ks_aload_0, ks_iload_1, ks_iload_2, ks_iload_3, ks_iload, ks_iconst, ks_sipush, ks_icmp_le, ks_get0, ks_get3, ks_get1, ks_get2, ks_inv0, ks_inv1, ks_inv2, ks_inv4, ks_inv3, ks_inv5, ks_inv6, ks_inv7, ks_iret0, kldi_0, kldl_0, klda_0, kldz_0, kst1_0, kst2_0, kldi_1, kldl_1, klda_1, kldz_1, kst1_1n, kst2_1n, kst1_1i, kst2_1i, kst1_1r, kst2_1r, kst1_1z, kst2_1z, kst1_1l, kst2_1l, kldi_2, kldl_2, klda_2, kldz_2, kst1_2n, kst2_2n, kst1_2i, kst2_2i, kst1_2r, kst2_2r, kst1_2z, kst2_2z, kst1_2l, kst2_2l, kldi_3, kldl_3, klda_3, kldz_3, kst1_3n, kst2_3n, kst1_3i, kst2_3i, kst1_3r, kst2_3r, kst1_3z, kst2_3z, kst1_3l, kst2_3l, kldi_4, kldl_4, klda_4, kldz_4, kst1_4n, kst2_4n, kst1_4i, kst2_4i, kst1_4r, kst2_4r, kst1_4z, kst2_4z, kst1_4l, kst2_4l, kldi_5, kldl_5, klda_5, kldz_5, kst1_5n, kst2_5n, kst1_5i, kst2_5i, kst1_5r, kst2_5r, kst1_5z, kst2_5z, kst1_5l, kst2_5l, kpr_r, kcat_n, kcat_i, kcat_r, kcat_z, kcat_l, kargs_0, kargs_s, kret_v, kret_n, kret_x, zl_380, jX11_feed_0, bX11_feed_0, jX11_feed_15, bX11_feed_15, Nat.reduceAdd, Nat.reduceLeDiff, Nat.reduceEqDiff, Nat.reduceSub, Nat.zero_le, Nat.add_left_cancel_iff, true_and, and_true, if_true, if_false, reduceIte, ne_eq, not_false_eq_true, wK_1 w, wR_1_3 w, wR_1_4 w, wR_1_5 w, wR_1_6 w, wR_1_7 w, wR_1_8 w, wR_1_9 w, wR_1_10 w, wR_1_11 w, wR_1_12 w, wK_26 w, wR_26_0 w, wK_27 w, r2, T.1]
  by_cases hc : t.length ≤ 380
  · refine br_t (nI_le hc (by omega)) ?_
    have H2 := H2 hc
    refine c_put w T (by omega) (fun f1 g1 T1 => ?_)
    have w1 : kW (sIA (sIA h 27 f1) 26 g1) := kW_sIA (kW_sIA w)
    simp only [ks_nop, ks_aload_0, ks_iload_1, ks_iload_2, ks_iload_3, ks_iload, ks_iconst, ks_sipush, ks_icmp_le, ks_get0, ks_get3, ks_get1, ks_get2, ks_inv0, ks_inv1, ks_inv2, ks_inv4, ks_inv3, ks_inv5, ks_inv6, ks_inv7, ks_iret0, kldi_0, kldl_0, klda_0, kldz_0, kst1_0, kst2_0, kldi_1, kldl_1, klda_1, kldz_1, kst1_1n, kst2_1n, kst1_1i, kst2_1i, kst1_1r, kst2_1r, kst1_1z, kst2_1z, kst1_1l, kst2_1l, kldi_2, kldl_2, klda_2, kldz_2, kst1_2n, kst2_2n, kst1_2i, kst2_2i, kst1_2r, kst2_2r, kst1_2z, kst2_2z, kst1_2l, kst2_2l, kldi_3, kldl_3, klda_3, kldz_3, kst1_3n, kst2_3n, kst1_3i, kst2_3i, kst1_3r, kst2_3r, kst1_3z, kst2_3z, kst1_3l, kst2_3l, kldi_4, kldl_4, klda_4, kldz_4, kst1_4n, kst2_4n, kst1_4i, kst2_4i, kst1_4r, kst2_4r, kst1_4z, kst2_4z, kst1_4l, kst2_4l, kldi_5, kldl_5, klda_5, kldz_5, kst1_5n, kst2_5n, kst1_5i, kst2_5i, kst1_5r, kst2_5r, kst1_5z, kst2_5z, kst1_5l, kst2_5l, kpr_r, kcat_n, kcat_i, kcat_r, kcat_z, kcat_l, kargs_0, kargs_s, kret_v, kret_n, kret_x, zl_380, jX11_feed_0, bX11_feed_0, jX11_feed_15, bX11_feed_15, Nat.reduceAdd, Nat.reduceLeDiff, Nat.reduceEqDiff, Nat.reduceSub, Nat.zero_le, Nat.add_left_cancel_iff, true_and, and_true, if_true, if_false, reduceIte, ne_eq, not_false_eq_true, kI_sI, kL_sI, kR_sI, kK_sI, kI_sL, kL_sL, kR_sL, kK_sL, kI_sIA, kL_sIA, kR_sIA, kK_sIA, kI_sLA, kL_sLA, kR_sLA, kK_sLA, wK_1 w, wR_1_3 w, wR_1_4 w, wR_1_5 w, wR_1_6 w, wR_1_7 w, wR_1_8 w, wR_1_9 w, wR_1_10 w, wR_1_11 w, wR_1_12 w, wK_26 w, wR_26_0 w, wK_27 w, r2]
    refine c_put w1 (t := t ++ by4 a) (by simpa only [kI_sI, kL_sI, kR_sI, kK_sI, kI_sL, kL_sL, kR_sL, kK_sL, kI_sIA, kL_sIA, kR_sIA, kK_sIA, kI_sLA, kL_sLA, kR_sLA, kK_sLA, Nat.reduceAdd, Nat.reduceLeDiff, Nat.reduceEqDiff, Nat.reduceSub, Nat.zero_le, Nat.add_left_cancel_iff, true_and, and_true, if_true, if_false, reduceIte, ne_eq, not_false_eq_true] using T1) (by simp [by4]; omega) (fun f2 g2 T2 => ?_)
    rw [s2 h _ _ _ _ (by decide)]
    have w2 : kW (sIA (sIA h 27 f2) 26 g2) := kW_sIA (kW_sIA w)
    simp only [ks_nop, ks_aload_0, ks_iload_1, ks_iload_2, ks_iload_3, ks_iload, ks_iconst, ks_sipush, ks_icmp_le, ks_get0, ks_get3, ks_get1, ks_get2, ks_inv0, ks_inv1, ks_inv2, ks_inv4, ks_inv3, ks_inv5, ks_inv6, ks_inv7, ks_iret0, kldi_0, kldl_0, klda_0, kldz_0, kst1_0, kst2_0, kldi_1, kldl_1, klda_1, kldz_1, kst1_1n, kst2_1n, kst1_1i, kst2_1i, kst1_1r, kst2_1r, kst1_1z, kst2_1z, kst1_1l, kst2_1l, kldi_2, kldl_2, klda_2, kldz_2, kst1_2n, kst2_2n, kst1_2i, kst2_2i, kst1_2r, kst2_2r, kst1_2z, kst2_2z, kst1_2l, kst2_2l, kldi_3, kldl_3, klda_3, kldz_3, kst1_3n, kst2_3n, kst1_3i, kst2_3i, kst1_3r, kst2_3r, kst1_3z, kst2_3z, kst1_3l, kst2_3l, kldi_4, kldl_4, klda_4, kldz_4, kst1_4n, kst2_4n, kst1_4i, kst2_4i, kst1_4r, kst2_4r, kst1_4z, kst2_4z, kst1_4l, kst2_4l, kldi_5, kldl_5, klda_5, kldz_5, kst1_5n, kst2_5n, kst1_5i, kst2_5i, kst1_5r, kst2_5r, kst1_5z, kst2_5z, kst1_5l, kst2_5l, kpr_r, kcat_n, kcat_i, kcat_r, kcat_z, kcat_l, kargs_0, kargs_s, kret_v, kret_n, kret_x, zl_380, jX11_feed_0, bX11_feed_0, jX11_feed_15, bX11_feed_15, Nat.reduceAdd, Nat.reduceLeDiff, Nat.reduceEqDiff, Nat.reduceSub, Nat.zero_le, Nat.add_left_cancel_iff, true_and, and_true, if_true, if_false, reduceIte, ne_eq, not_false_eq_true, kI_sI, kL_sI, kR_sI, kK_sI, kI_sL, kL_sL, kR_sL, kK_sL, kI_sIA, kL_sIA, kR_sIA, kK_sIA, kI_sLA, kL_sLA, kR_sLA, kK_sLA, wK_1 w, wR_1_3 w, wR_1_4 w, wR_1_5 w, wR_1_6 w, wR_1_7 w, wR_1_8 w, wR_1_9 w, wR_1_10 w, wR_1_11 w, wR_1_12 w, wK_26 w, wR_26_0 w, wK_27 w, r2]
    refine c_put w2 (t := t ++ by4 a ++ by4 b) (by simpa only [kI_sI, kL_sI, kR_sI, kK_sI, kI_sL, kL_sL, kR_sL, kK_sL, kI_sIA, kL_sIA, kR_sIA, kK_sIA, kI_sLA, kL_sLA, kR_sLA, kK_sLA, Nat.reduceAdd, Nat.reduceLeDiff, Nat.reduceEqDiff, Nat.reduceSub, Nat.zero_le, Nat.add_left_cancel_iff, true_and, and_true, if_true, if_false, reduceIte, ne_eq, not_false_eq_true] using T2) (by simp [by4]; omega) (fun f3 g3 T3 => ?_)
    rw [s2 h _ _ _ _ (by decide)]
    have w3 : kW (sIA (sIA h 27 f3) 26 g3) := kW_sIA (kW_sIA w)
    simp only [ks_nop, ks_aload_0, ks_iload_1, ks_iload_2, ks_iload_3, ks_iload, ks_iconst, ks_sipush, ks_icmp_le, ks_get0, ks_get3, ks_get1, ks_get2, ks_inv0, ks_inv1, ks_inv2, ks_inv4, ks_inv3, ks_inv5, ks_inv6, ks_inv7, ks_iret0, kldi_0, kldl_0, klda_0, kldz_0, kst1_0, kst2_0, kldi_1, kldl_1, klda_1, kldz_1, kst1_1n, kst2_1n, kst1_1i, kst2_1i, kst1_1r, kst2_1r, kst1_1z, kst2_1z, kst1_1l, kst2_1l, kldi_2, kldl_2, klda_2, kldz_2, kst1_2n, kst2_2n, kst1_2i, kst2_2i, kst1_2r, kst2_2r, kst1_2z, kst2_2z, kst1_2l, kst2_2l, kldi_3, kldl_3, klda_3, kldz_3, kst1_3n, kst2_3n, kst1_3i, kst2_3i, kst1_3r, kst2_3r, kst1_3z, kst2_3z, kst1_3l, kst2_3l, kldi_4, kldl_4, klda_4, kldz_4, kst1_4n, kst2_4n, kst1_4i, kst2_4i, kst1_4r, kst2_4r, kst1_4z, kst2_4z, kst1_4l, kst2_4l, kldi_5, kldl_5, klda_5, kldz_5, kst1_5n, kst2_5n, kst1_5i, kst2_5i, kst1_5r, kst2_5r, kst1_5z, kst2_5z, kst1_5l, kst2_5l, kpr_r, kcat_n, kcat_i, kcat_r, kcat_z, kcat_l, kargs_0, kargs_s, kret_v, kret_n, kret_x, zl_380, jX11_feed_0, bX11_feed_0, jX11_feed_15, bX11_feed_15, Nat.reduceAdd, Nat.reduceLeDiff, Nat.reduceEqDiff, Nat.reduceSub, Nat.zero_le, Nat.add_left_cancel_iff, true_and, and_true, if_true, if_false, reduceIte, ne_eq, not_false_eq_true, kI_sI, kL_sI, kR_sI, kK_sI, kI_sL, kL_sL, kR_sL, kK_sL, kI_sIA, kL_sIA, kR_sIA, kK_sIA, kI_sLA, kL_sLA, kR_sLA, kK_sLA, wK_1 w, wR_1_3 w, wR_1_4 w, wR_1_5 w, wR_1_6 w, wR_1_7 w, wR_1_8 w, wR_1_9 w, wR_1_10 w, wR_1_11 w, wR_1_12 w, wK_26 w, wR_26_0 w, wK_27 w, r2]
    refine c_put w3 (t := t ++ by4 a ++ by4 b ++ by4 c) (by simpa only [kI_sI, kL_sI, kR_sI, kK_sI, kI_sL, kL_sL, kR_sL, kK_sL, kI_sIA, kL_sIA, kR_sIA, kK_sIA, kI_sLA, kL_sLA, kR_sLA, kK_sLA, Nat.reduceAdd, Nat.reduceLeDiff, Nat.reduceEqDiff, Nat.reduceSub, Nat.zero_le, Nat.add_left_cancel_iff, true_and, and_true, if_true, if_false, reduceIte, ne_eq, not_false_eq_true] using T3) (by simp [by4]; omega) (fun f4 g4 T4 => ?_)
    rw [s2 h _ _ _ _ (by decide)]
    have w4 : kW (sIA (sIA h 27 f4) 26 g4) := kW_sIA (kW_sIA w)
    simp only [ks_nop, ks_aload_0, ks_iload_1, ks_iload_2, ks_iload_3, ks_iload, ks_iconst, ks_sipush, ks_icmp_le, ks_get0, ks_get3, ks_get1, ks_get2, ks_inv0, ks_inv1, ks_inv2, ks_inv4, ks_inv3, ks_inv5, ks_inv6, ks_inv7, ks_iret0, kldi_0, kldl_0, klda_0, kldz_0, kst1_0, kst2_0, kldi_1, kldl_1, klda_1, kldz_1, kst1_1n, kst2_1n, kst1_1i, kst2_1i, kst1_1r, kst2_1r, kst1_1z, kst2_1z, kst1_1l, kst2_1l, kldi_2, kldl_2, klda_2, kldz_2, kst1_2n, kst2_2n, kst1_2i, kst2_2i, kst1_2r, kst2_2r, kst1_2z, kst2_2z, kst1_2l, kst2_2l, kldi_3, kldl_3, klda_3, kldz_3, kst1_3n, kst2_3n, kst1_3i, kst2_3i, kst1_3r, kst2_3r, kst1_3z, kst2_3z, kst1_3l, kst2_3l, kldi_4, kldl_4, klda_4, kldz_4, kst1_4n, kst2_4n, kst1_4i, kst2_4i, kst1_4r, kst2_4r, kst1_4z, kst2_4z, kst1_4l, kst2_4l, kldi_5, kldl_5, klda_5, kldz_5, kst1_5n, kst2_5n, kst1_5i, kst2_5i, kst1_5r, kst2_5r, kst1_5z, kst2_5z, kst1_5l, kst2_5l, kpr_r, kcat_n, kcat_i, kcat_r, kcat_z, kcat_l, kargs_0, kargs_s, kret_v, kret_n, kret_x, zl_380, jX11_feed_0, bX11_feed_0, jX11_feed_15, bX11_feed_15, Nat.reduceAdd, Nat.reduceLeDiff, Nat.reduceEqDiff, Nat.reduceSub, Nat.zero_le, Nat.add_left_cancel_iff, true_and, and_true, if_true, if_false, reduceIte, ne_eq, not_false_eq_true, kI_sI, kL_sI, kR_sI, kK_sI, kI_sL, kL_sL, kR_sL, kK_sL, kI_sIA, kL_sIA, kR_sIA, kK_sIA, kI_sLA, kL_sLA, kR_sLA, kK_sLA, wK_1 w, wR_1_3 w, wR_1_4 w, wR_1_5 w, wR_1_6 w, wR_1_7 w, wR_1_8 w, wR_1_9 w, wR_1_10 w, wR_1_11 w, wR_1_12 w, wK_26 w, wR_26_0 w, wK_27 w, r2]
    refine c_put w4 (t := t ++ by4 a ++ by4 b ++ by4 c ++ by4 d) (by simpa only [kI_sI, kL_sI, kR_sI, kK_sI, kI_sL, kL_sL, kR_sL, kK_sL, kI_sIA, kL_sIA, kR_sIA, kK_sIA, kI_sLA, kL_sLA, kR_sLA, kK_sLA, Nat.reduceAdd, Nat.reduceLeDiff, Nat.reduceEqDiff, Nat.reduceSub, Nat.zero_le, Nat.add_left_cancel_iff, true_and, and_true, if_true, if_false, reduceIte, ne_eq, not_false_eq_true] using T4) (by simp [by4]; omega) (fun f5 g5 T5 => ?_)
    rw [s2 h _ _ _ _ (by decide)]
    have w5 : kW (sIA (sIA h 27 f5) 26 g5) := kW_sIA (kW_sIA w)
    simp only [ks_nop, ks_aload_0, ks_iload_1, ks_iload_2, ks_iload_3, ks_iload, ks_iconst, ks_sipush, ks_icmp_le, ks_get0, ks_get3, ks_get1, ks_get2, ks_inv0, ks_inv1, ks_inv2, ks_inv4, ks_inv3, ks_inv5, ks_inv6, ks_inv7, ks_iret0, kldi_0, kldl_0, klda_0, kldz_0, kst1_0, kst2_0, kldi_1, kldl_1, klda_1, kldz_1, kst1_1n, kst2_1n, kst1_1i, kst2_1i, kst1_1r, kst2_1r, kst1_1z, kst2_1z, kst1_1l, kst2_1l, kldi_2, kldl_2, klda_2, kldz_2, kst1_2n, kst2_2n, kst1_2i, kst2_2i, kst1_2r, kst2_2r, kst1_2z, kst2_2z, kst1_2l, kst2_2l, kldi_3, kldl_3, klda_3, kldz_3, kst1_3n, kst2_3n, kst1_3i, kst2_3i, kst1_3r, kst2_3r, kst1_3z, kst2_3z, kst1_3l, kst2_3l, kldi_4, kldl_4, klda_4, kldz_4, kst1_4n, kst2_4n, kst1_4i, kst2_4i, kst1_4r, kst2_4r, kst1_4z, kst2_4z, kst1_4l, kst2_4l, kldi_5, kldl_5, klda_5, kldz_5, kst1_5n, kst2_5n, kst1_5i, kst2_5i, kst1_5r, kst2_5r, kst1_5z, kst2_5z, kst1_5l, kst2_5l, kpr_r, kcat_n, kcat_i, kcat_r, kcat_z, kcat_l, kargs_0, kargs_s, kret_v, kret_n, kret_x, zl_380, jX11_feed_0, bX11_feed_0, jX11_feed_15, bX11_feed_15, Nat.reduceAdd, Nat.reduceLeDiff, Nat.reduceEqDiff, Nat.reduceSub, Nat.zero_le, Nat.add_left_cancel_iff, true_and, and_true, if_true, if_false, reduceIte, ne_eq, not_false_eq_true, kI_sI, kL_sI, kR_sI, kK_sI, kI_sL, kL_sL, kR_sL, kK_sL, kI_sIA, kL_sIA, kR_sIA, kK_sIA, kI_sLA, kL_sLA, kR_sLA, kK_sLA, wK_1 w, wR_1_3 w, wR_1_4 w, wR_1_5 w, wR_1_6 w, wR_1_7 w, wR_1_8 w, wR_1_9 w, wR_1_10 w, wR_1_11 w, wR_1_12 w, wK_26 w, wR_26_0 w, wK_27 w, r2]
    refine c_tapeSize w5 ?_
    simp only [ks_nop, ks_aload_0, ks_iload_1, ks_iload_2, ks_iload_3, ks_iload, ks_iconst, ks_sipush, ks_icmp_le, ks_get0, ks_get3, ks_get1, ks_get2, ks_inv0, ks_inv1, ks_inv2, ks_inv4, ks_inv3, ks_inv5, ks_inv6, ks_inv7, ks_iret0, kldi_0, kldl_0, klda_0, kldz_0, kst1_0, kst2_0, kldi_1, kldl_1, klda_1, kldz_1, kst1_1n, kst2_1n, kst1_1i, kst2_1i, kst1_1r, kst2_1r, kst1_1z, kst2_1z, kst1_1l, kst2_1l, kldi_2, kldl_2, klda_2, kldz_2, kst1_2n, kst2_2n, kst1_2i, kst2_2i, kst1_2r, kst2_2r, kst1_2z, kst2_2z, kst1_2l, kst2_2l, kldi_3, kldl_3, klda_3, kldz_3, kst1_3n, kst2_3n, kst1_3i, kst2_3i, kst1_3r, kst2_3r, kst1_3z, kst2_3z, kst1_3l, kst2_3l, kldi_4, kldl_4, klda_4, kldz_4, kst1_4n, kst2_4n, kst1_4i, kst2_4i, kst1_4r, kst2_4r, kst1_4z, kst2_4z, kst1_4l, kst2_4l, kldi_5, kldl_5, klda_5, kldz_5, kst1_5n, kst2_5n, kst1_5i, kst2_5i, kst1_5r, kst2_5r, kst1_5z, kst2_5z, kst1_5l, kst2_5l, kpr_r, kcat_n, kcat_i, kcat_r, kcat_z, kcat_l, kargs_0, kargs_s, kret_v, kret_n, kret_x, zl_380, jX11_feed_0, bX11_feed_0, jX11_feed_15, bX11_feed_15, Nat.reduceAdd, Nat.reduceLeDiff, Nat.reduceEqDiff, Nat.reduceSub, Nat.zero_le, Nat.add_left_cancel_iff, true_and, and_true, if_true, if_false, reduceIte, ne_eq, not_false_eq_true, kI_sI, kL_sI, kR_sI, kK_sI, kI_sL, kL_sL, kR_sL, kK_sL, kI_sIA, kL_sIA, kR_sIA, kK_sIA, kI_sLA, kL_sLA, kR_sLA, kK_sLA]
    have e1 : t ++ by4 a ++ by4 b ++ by4 c ++ by4 d ++ by4 e = t ++ by20 a b c d e := by simp [by20]
    rw [e1] at T5
    have := H2 f5 g5 T5
    have e2 : g5 1 = nI (t.length + 20) := by rw [T5.1]; simp [by20, by4]
    rw [e2]
    exact ⟨by simp, this⟩
  · refine br_f (nI_ge (by omega) (by omega)) ?_
    exact ⟨by simp, H1 (by omega)⟩
end TP

section RW
variable {r : Nat} {h : KH} {Q : KO → KH → Prop}
theorem c_nlzL {m : Nat} (hr : 3 ≤ r) (h0 : 0 < m) (hm : m < 2 ^ 62) (H : Q (.inl (some (.int (nI (63 - Nat.log2 m))))) h) : kCalls r yJ13_numberOfLeadingZeros_95d88 [.long (lN m)] h Q := by
  have r2 : 2 ≤ r := by omega
  refine sJ13_numberOfLeadingZeros_95d88 _ ?_
  refine eJ13_numberOfLeadingZeros_95d88_0 ?_
  simp only [ks_nop, ks_lload_0, ks_iload_2, ks_istore_2, ks_bipush, ks_iadd, ks_lushr, ks_l2i, ks_if_ne, ks_goto, ks_inv0, ks_inv1, ks_inv2, ks_inv4, ks_inv3, ks_inv5, ks_inv6, ks_inv7, ks_inv8, ks_iret0, kldi_0, kldl_0, klda_0, kldz_0, kst1_0, kst2_0, kldi_1, kldl_1, klda_1, kldz_1, kst1_1n, kst2_1n, kst1_1i, kst2_1i, kst1_1r, kst2_1r, kst1_1z, kst2_1z, kst1_1l, kst2_1l, kldi_2, kldl_2, klda_2, kldz_2, kst1_2n, kst2_2n, kst1_2i, kst2_2i, kst1_2r, kst2_2r, kst1_2z, kst2_2z, kst1_2l, kst2_2l, kpr_r, kcat_n, kcat_i, kcat_r, kcat_z, kcat_l, kargs_0, kargs_s, kret_v, kret_n, kret_x, zl_32, jJ13_numberOfLeadingZeros_95d88_0, bJ13_numberOfLeadingZeros_95d88_0, jJ13_numberOfLeadingZeros_95d88_21, bJ13_numberOfLeadingZeros_95d88_21, jJ13_numberOfLeadingZeros_95d88_25, bJ13_numberOfLeadingZeros_95d88_25, Nat.reduceAdd, Nat.reduceLeDiff, Nat.reduceEqDiff, Nat.reduceSub, Nat.zero_le, Nat.add_left_cancel_iff, true_and, and_true, if_true, if_false, reduceIte, ne_eq, not_false_eq_true, Nat.add_eq_left, Nat.left_eq_add, r2]
  rw [L_lus (by omega) (by omega), lN_i]
  have hlog := (Nat.log2_lt (n := m) (k := 62) (by omega)).mpr hm
  by_cases hc : m < 2 ^ 32
  · rw [Nat.div_eq_of_lt hc]
    refine br_f (by rw [nI_0]; simp) ?_
    rw [lN_i]
    have hl2 := (Nat.log2_lt (n := m) (k := 32) (by omega)).mpr hc
    have fin : kRun r mJ13_numberOfLeadingZeros_95d88 25 [some (.long (lN m)), none, some (.int (nI 0))] [.int (nI (63 - Nat.log2 m))] h Q := by
      refine eJ13_numberOfLeadingZeros_95d88_25 ?_
      simp only [ks_nop, ks_lload_0, ks_iload_2, ks_istore_2, ks_bipush, ks_iadd, ks_lushr, ks_l2i, ks_if_ne, ks_goto, ks_inv0, ks_inv1, ks_inv2, ks_inv4, ks_inv3, ks_inv5, ks_inv6, ks_inv7, ks_inv8, ks_iret0, kldi_0, kldl_0, klda_0, kldz_0, kst1_0, kst2_0, kldi_1, kldl_1, klda_1, kldz_1, kst1_1n, kst2_1n, kst1_1i, kst2_1i, kst1_1r, kst2_1r, kst1_1z, kst2_1z, kst1_1l, kst2_1l, kldi_2, kldl_2, klda_2, kldz_2, kst1_2n, kst2_2n, kst1_2i, kst2_2i, kst1_2r, kst2_2r, kst1_2z, kst2_2z, kst1_2l, kst2_2l, kpr_r, kcat_n, kcat_i, kcat_r, kcat_z, kcat_l, kargs_0, kargs_s, kret_v, kret_n, kret_x, zl_32, jJ13_numberOfLeadingZeros_95d88_0, bJ13_numberOfLeadingZeros_95d88_0, jJ13_numberOfLeadingZeros_95d88_21, bJ13_numberOfLeadingZeros_95d88_21, jJ13_numberOfLeadingZeros_95d88_25, bJ13_numberOfLeadingZeros_95d88_25]
      exact ⟨by simp, H⟩
    by_cases hn : m < 2 ^ 31
    · have hl3 := (Nat.log2_lt (n := m) (k := 31) (by omega)).mpr hn
      refine c_nlzI h0 hn ?_
      simp only [ks_nop, ks_lload_0, ks_iload_2, ks_istore_2, ks_bipush, ks_iadd, ks_lushr, ks_l2i, ks_if_ne, ks_goto, ks_inv0, ks_inv1, ks_inv2, ks_inv4, ks_inv3, ks_inv5, ks_inv6, ks_inv7, ks_inv8, ks_iret0, kldi_0, kldl_0, klda_0, kldz_0, kst1_0, kst2_0, kldi_1, kldl_1, klda_1, kldz_1, kst1_1n, kst2_1n, kst1_1i, kst2_1i, kst1_1r, kst2_1r, kst1_1z, kst2_1z, kst1_1l, kst2_1l, kldi_2, kldl_2, klda_2, kldz_2, kst1_2n, kst2_2n, kst1_2i, kst2_2i, kst1_2r, kst2_2r, kst1_2z, kst2_2z, kst1_2l, kst2_2l, kpr_r, kcat_n, kcat_i, kcat_r, kcat_z, kcat_l, kargs_0, kargs_s, kret_v, kret_n, kret_x, zl_32, jJ13_numberOfLeadingZeros_95d88_0, bJ13_numberOfLeadingZeros_95d88_0, jJ13_numberOfLeadingZeros_95d88_21, bJ13_numberOfLeadingZeros_95d88_21, jJ13_numberOfLeadingZeros_95d88_25, bJ13_numberOfLeadingZeros_95d88_25, nI_add]
      rw [show 32 + (31 - Nat.log2 m) = 63 - Nat.log2 m by omega]
      exact fin
    · have hneg : nI m < 0 := by
        rw [fa_lt]
        have e1 : (nI m).toInt = (m : Int) - 2 ^ 32 := by
          show (Int32.ofNat m).toInt = _
          rw [Int32.toInt_ofNat', Int.bmod_eq_emod]
          simp [Int32.size]
          rw [if_pos (by omega)]
          omega
        rw [e1]
        show (m : Int) - 2 ^ 32 < 0
        omega
      refine c_nlzN hneg ?_
      simp only [ks_nop, ks_lload_0, ks_iload_2, ks_istore_2, ks_bipush, ks_iadd, ks_lushr, ks_l2i, ks_if_ne, ks_goto, ks_inv0, ks_inv1, ks_inv2, ks_inv4, ks_inv3, ks_inv5, ks_inv6, ks_inv7, ks_inv8, ks_iret0, kldi_0, kldl_0, klda_0, kldz_0, kst1_0, kst2_0, kldi_1, kldl_1, klda_1, kldz_1, kst1_1n, kst2_1n, kst1_1i, kst2_1i, kst1_1r, kst2_1r, kst1_1z, kst2_1z, kst1_1l, kst2_1l, kldi_2, kldl_2, klda_2, kldz_2, kst1_2n, kst2_2n, kst1_2i, kst2_2i, kst1_2r, kst2_2r, kst1_2z, kst2_2z, kst1_2l, kst2_2l, kpr_r, kcat_n, kcat_i, kcat_r, kcat_z, kcat_l, kargs_0, kargs_s, kret_v, kret_n, kret_x, zl_32, jJ13_numberOfLeadingZeros_95d88_0, bJ13_numberOfLeadingZeros_95d88_0, jJ13_numberOfLeadingZeros_95d88_21, bJ13_numberOfLeadingZeros_95d88_21, jJ13_numberOfLeadingZeros_95d88_25, bJ13_numberOfLeadingZeros_95d88_25]
      have hl31 : Nat.log2 m = 31 := by
        have : ¬ Nat.log2 m < 31 := fun q => hn ((Nat.log2_lt (by omega)).mp q)
        omega
      rw [show nI 32 + 0 = nI (63 - Nat.log2 m) by rw [hl31]; rfl]
      exact fin
  · have hd : 0 < m / 2 ^ 32 := Nat.div_pos (by omega) (by omega)
    have hd2 : m / 2 ^ 32 < 2 ^ 31 := by omega
    refine br_t (nI_ne0 hd hd2) ?_
    refine c_nlzI hd hd2 ?_
    simp only [ks_nop, ks_lload_0, ks_iload_2, ks_istore_2, ks_bipush, ks_iadd, ks_lushr, ks_l2i, ks_if_ne, ks_goto, ks_inv0, ks_inv1, ks_inv2, ks_inv4, ks_inv3, ks_inv5, ks_inv6, ks_inv7, ks_inv8, ks_iret0, kldi_0, kldl_0, klda_0, kldz_0, kst1_0, kst2_0, kldi_1, kldl_1, klda_1, kldz_1, kst1_1n, kst2_1n, kst1_1i, kst2_1i, kst1_1r, kst2_1r, kst1_1z, kst2_1z, kst1_1l, kst2_1l, kldi_2, kldl_2, klda_2, kldz_2, kst1_2n, kst2_2n, kst1_2i, kst2_2i, kst1_2r, kst2_2r, kst1_2z, kst2_2z, kst1_2l, kst2_2l, kpr_r, kcat_n, kcat_i, kcat_r, kcat_z, kcat_l, kargs_0, kargs_s, kret_v, kret_n, kret_x, zl_32, jJ13_numberOfLeadingZeros_95d88_0, bJ13_numberOfLeadingZeros_95d88_0, jJ13_numberOfLeadingZeros_95d88_21, bJ13_numberOfLeadingZeros_95d88_21, jJ13_numberOfLeadingZeros_95d88_25, bJ13_numberOfLeadingZeros_95d88_25]
    refine eJ13_numberOfLeadingZeros_95d88_25 ?_
    simp only [ks_nop, ks_lload_0, ks_iload_2, ks_istore_2, ks_bipush, ks_iadd, ks_lushr, ks_l2i, ks_if_ne, ks_goto, ks_inv0, ks_inv1, ks_inv2, ks_inv4, ks_inv3, ks_inv5, ks_inv6, ks_inv7, ks_inv8, ks_iret0, kldi_0, kldl_0, klda_0, kldz_0, kst1_0, kst2_0, kldi_1, kldl_1, klda_1, kldz_1, kst1_1n, kst2_1n, kst1_1i, kst2_1i, kst1_1r, kst2_1r, kst1_1z, kst2_1z, kst1_1l, kst2_1l, kldi_2, kldl_2, klda_2, kldz_2, kst1_2n, kst2_2n, kst1_2i, kst2_2i, kst1_2r, kst2_2r, kst1_2z, kst2_2z, kst1_2l, kst2_2l, kpr_r, kcat_n, kcat_i, kcat_r, kcat_z, kcat_l, kargs_0, kargs_s, kret_v, kret_n, kret_x, zl_32, jJ13_numberOfLeadingZeros_95d88_0, bJ13_numberOfLeadingZeros_95d88_0, jJ13_numberOfLeadingZeros_95d88_21, bJ13_numberOfLeadingZeros_95d88_21, jJ13_numberOfLeadingZeros_95d88_25, bJ13_numberOfLeadingZeros_95d88_25]
    have := z_log (m := m) (k := 32) (by omega)
    rw [show 31 - Nat.log2 (m / 2 ^ 32) = 63 - Nat.log2 m by omega]
    exact ⟨by simp, H⟩
theorem c_lengthOf0 {m : Nat} (hr : 4 ≤ r) (h0 : 0 < m) (hm : m < 2 ^ 62) (H : Q (.inl (some (.int (nI (Nat.log2 m / 2))))) h) : kCalls r yX11_lengthOf [.long (lN m)] h Q := by
  have r2 : 2 ≤ r := by omega
  refine sX11_lengthOf _ ?_
  refine eX11_lengthOf_0 ?_
  simp only [ks_nop, ks_lload_0, ks_iconst, ks_bipush, ks_isub, ks_ishr, ks_inv0, ks_inv1, ks_inv2, ks_inv4, ks_inv3, ks_inv5, ks_inv6, ks_inv7, ks_inv8, ks_iret0, kldi_0, kldl_0, klda_0, kldz_0, kst1_0, kst2_0, kldi_1, kldl_1, klda_1, kldz_1, kst1_1n, kst2_1n, kst1_1i, kst2_1i, kst1_1r, kst2_1r, kst1_1z, kst2_1z, kst1_1l, kst2_1l, kpr_r, kcat_n, kcat_i, kcat_r, kcat_z, kcat_l, kargs_0, kargs_s, kret_v, kret_n, kret_x, zl_63, jX11_lengthOf_0, bX11_lengthOf_0, Nat.reduceAdd, Nat.reduceLeDiff, Nat.reduceEqDiff, Nat.reduceSub, Nat.zero_le, Nat.add_left_cancel_iff, true_and, and_true, if_true, if_false, reduceIte, ne_eq, not_false_eq_true, Nat.add_eq_left, Nat.left_eq_add, r2]
  refine c_nlzL (by omega) h0 hm ?_
  have hlog := (Nat.log2_lt (n := m) (k := 62) (by omega)).mpr hm
  simp only [ks_nop, ks_lload_0, ks_iconst, ks_bipush, ks_isub, ks_ishr, ks_inv0, ks_inv1, ks_inv2, ks_inv4, ks_inv3, ks_inv5, ks_inv6, ks_inv7, ks_inv8, ks_iret0, kldi_0, kldl_0, klda_0, kldz_0, kst1_0, kst2_0, kldi_1, kldl_1, klda_1, kldz_1, kst1_1n, kst2_1n, kst1_1i, kst2_1i, kst1_1r, kst2_1r, kst1_1z, kst2_1z, kst1_1l, kst2_1l, kpr_r, kcat_n, kcat_i, kcat_r, kcat_z, kcat_l, kargs_0, kargs_s, kret_v, kret_n, kret_x, zl_63, jX11_lengthOf_0, bX11_lengthOf_0]
  rw [pk_sub (by omega), show (1 : Int32) = nI 1 from rfl, z_shr (by omega) (by omega)]
  rw [show 63 - (63 - Nat.log2 m) = Nat.log2 m by omega, Nat.shiftRight_eq_div_pow]
  exact ⟨by simp, H⟩
theorem c_lengthOf {w : List Nat} (hr : 4 ≤ r) (hw : wok w) (hl : w.length ≤ 30) (H : Q (.inl (some (.int (nI w.length)))) h) : kCalls r yX11_lengthOf [.long (lN (cd w))] h Q := by
  have h1 := cd_lt hw hl
  refine c_lengthOf0 hr (cd_pos w) (by omega) ?_
  rw [cd_log hw, Nat.mul_div_cancel_left _ (by omega)]
  exact H
theorem c_signAt {w : List Nat} {k : Nat} (hr : 5 ≤ r) (hw : wok w) (hl : w.length ≤ 30) (hk : k < w.length) (H : Q (.inl (some (.int (nI (w.getD k 0))))) h) : kCalls r yX11_signAt [.long (lN (cd w)), .int (nI k)] h Q := by
  have r2 : 2 ≤ r := by omega
  have h1 := cd_lt hw hl
  refine sX11_signAt _ _ ?_
  refine eX11_signAt_0 ?_
  simp only [ks_nop, ks_lload_0, ks_iload_2, ks_iconst, ks_isub, ks_imul, ks_iand, ks_lshr, ks_l2i, ks_inv0, ks_inv1, ks_inv2, ks_inv4, ks_inv3, ks_inv5, ks_inv6, ks_inv7, ks_inv8, ks_iret0, kldi_0, kldl_0, klda_0, kldz_0, kst1_0, kst2_0, kldi_1, kldl_1, klda_1, kldz_1, kst1_1n, kst2_1n, kst1_1i, kst2_1i, kst1_1r, kst2_1r, kst1_1z, kst2_1z, kst1_1l, kst2_1l, kldi_2, kldl_2, klda_2, kldz_2, kst1_2n, kst2_2n, kst1_2i, kst2_2i, kst1_2r, kst2_2r, kst1_2z, kst2_2z, kst1_2l, kst2_2l, kpr_r, kcat_n, kcat_i, kcat_r, kcat_z, kcat_l, kargs_0, kargs_s, kret_v, kret_n, kret_x, zl_2, zl_3, jX11_signAt_0, bX11_signAt_0, Nat.reduceAdd, Nat.reduceLeDiff, Nat.reduceEqDiff, Nat.reduceSub, Nat.zero_le, Nat.add_left_cancel_iff, true_and, and_true, if_true, if_false, reduceIte, ne_eq, not_false_eq_true, Nat.add_eq_left, Nat.left_eq_add, r2]
  refine c_lengthOf (by omega) hw hl ?_
  simp only [ks_nop, ks_lload_0, ks_iload_2, ks_iconst, ks_isub, ks_imul, ks_iand, ks_lshr, ks_l2i, ks_inv0, ks_inv1, ks_inv2, ks_inv4, ks_inv3, ks_inv5, ks_inv6, ks_inv7, ks_inv8, ks_iret0, kldi_0, kldl_0, klda_0, kldz_0, kst1_0, kst2_0, kldi_1, kldl_1, klda_1, kldz_1, kst1_1n, kst2_1n, kst1_1i, kst2_1i, kst1_1r, kst2_1r, kst1_1z, kst2_1z, kst1_1l, kst2_1l, kldi_2, kldl_2, klda_2, kldz_2, kst1_2n, kst2_2n, kst1_2i, kst2_2i, kst1_2r, kst2_2r, kst1_2z, kst2_2z, kst1_2l, kst2_2l, kpr_r, kcat_n, kcat_i, kcat_r, kcat_z, kcat_l, kargs_0, kargs_s, kret_v, kret_n, kret_x, zl_2, zl_3, jX11_signAt_0, bX11_signAt_0]
  rw [show (1 : Int32) = nI 1 from rfl, pk_sub (by omega), pk_sub (by omega), pk_mul, L_lsr (by omega) (by omega), lN_i]
  have e1 : nI 3 = nI (2 ^ 2 - 1) := rfl
  rw [e1, fa_mask, ← p4, show (2 ^ 2 : Nat) = 4 from rfl, cd_sign hw hk]
  exact ⟨by simp, H⟩
theorem c_joined {u v : List Nat} (hr : 5 ≤ r) (hu : wok u) (hv : wok v) (hl : u.length + v.length ≤ 30) (H : Q (.inl (some (.long (lN (cd (u ++ v)))))) h) : kCalls r yX11_joined [.long (lN (cd u)), .long (lN (cd v))] h Q := by
  have r2 : 2 ≤ r := by omega
  have h1 := cd_lt hv (k := 30) (by omega)
  have h2 := cd_lt (wok_app hu hv) (k := 30) (by simpa using hl)
  have hv2 := vl_lt hv
  refine sX11_joined _ _ ?_
  refine eX11_joined_0 ?_
  simp only [ks_nop, ks_lload_0, ks_lload_2, ks_iload, ks_istore, ks_iconst, ks_lconst, ks_imul, ks_lor, ks_lxor, ks_lshl, ks_inv0, ks_inv1, ks_inv2, ks_inv4, ks_inv3, ks_inv5, ks_inv6, ks_inv7, ks_inv8, ks_lret, kldi_0, kldl_0, klda_0, kldz_0, kst1_0, kst2_0, kldi_1, kldl_1, klda_1, kldz_1, kst1_1n, kst2_1n, kst1_1i, kst2_1i, kst1_1r, kst2_1r, kst1_1z, kst2_1z, kst1_1l, kst2_1l, kldi_2, kldl_2, klda_2, kldz_2, kst1_2n, kst2_2n, kst1_2i, kst2_2i, kst1_2r, kst2_2r, kst1_2z, kst2_2z, kst1_2l, kst2_2l, kldi_3, kldl_3, klda_3, kldz_3, kst1_3n, kst2_3n, kst1_3i, kst2_3i, kst1_3r, kst2_3r, kst1_3z, kst2_3z, kst1_3l, kst2_3l, kldi_4, kldl_4, klda_4, kldz_4, kst1_4n, kst2_4n, kst1_4i, kst2_4i, kst1_4r, kst2_4r, kst1_4z, kst2_4z, kst1_4l, kst2_4l, kpr_r, kcat_n, kcat_i, kcat_r, kcat_z, kcat_l, kargs_0, kargs_s, kret_v, kret_n, kret_x, zl_2, jX11_joined_0, bX11_joined_0, Nat.reduceAdd, Nat.reduceLeDiff, Nat.reduceEqDiff, Nat.reduceSub, Nat.zero_le, Nat.add_left_cancel_iff, true_and, and_true, if_true, if_false, reduceIte, ne_eq, not_false_eq_true, Nat.add_eq_left, Nat.left_eq_add, r2]
  refine c_lengthOf (by omega) hv (by omega) ?_
  simp only [ks_nop, ks_lload_0, ks_lload_2, ks_iload, ks_istore, ks_iconst, ks_lconst, ks_imul, ks_lor, ks_lxor, ks_lshl, ks_inv0, ks_inv1, ks_inv2, ks_inv4, ks_inv3, ks_inv5, ks_inv6, ks_inv7, ks_inv8, ks_lret, kldi_0, kldl_0, klda_0, kldz_0, kst1_0, kst2_0, kldi_1, kldl_1, klda_1, kldz_1, kst1_1n, kst2_1n, kst1_1i, kst2_1i, kst1_1r, kst2_1r, kst1_1z, kst2_1z, kst1_1l, kst2_1l, kldi_2, kldl_2, klda_2, kldz_2, kst1_2n, kst2_2n, kst1_2i, kst2_2i, kst1_2r, kst2_2r, kst1_2z, kst2_2z, kst1_2l, kst2_2l, kldi_3, kldl_3, klda_3, kldz_3, kst1_3n, kst2_3n, kst1_3i, kst2_3i, kst1_3r, kst2_3r, kst1_3z, kst2_3z, kst1_3l, kst2_3l, kldi_4, kldl_4, klda_4, kldz_4, kst1_4n, kst2_4n, kst1_4i, kst2_4i, kst1_4r, kst2_4r, kst1_4z, kst2_4z, kst1_4l, kst2_4l, kpr_r, kcat_n, kcat_i, kcat_r, kcat_z, kcat_l, kargs_0, kargs_s, kret_v, kret_n, kret_x, zl_2, jX11_joined_0, bX11_joined_0]
  rw [pk_mul, show (1 : Int64) = lN 1 from rfl, L_lsl (by omega), L_lsl (by omega), Nat.one_mul, lN_xor]
  have e1 : cd v ^^^ 2 ^ (2 * v.length) = vl v := by
    rw [cd, p4]
    rw [p4] at hv2
    exact n_xor_top hv2
  rw [p4] at hv2
  have e2 : cd (u ++ v) = cd u * 2 ^ (2 * v.length) + vl v := by rw [cd_app, p4]
  have e3 : 2 ^ (2 * v.length) ≤ 2 ^ 60 := Nat.pow_le_pow_right (by omega) (by omega)
  rw [e1, L_or (by omega) (by omega), n_or_add hv2, ← e2]
  exact H
theorem c_cut {w : List Nat} {i j : Nat} (hr : 5 ≤ r) (hw : wok w) (hl : w.length ≤ 30) (hi : i ≤ j) (hj : j ≤ w.length) (H : Q (.inl (some (.long (lN (cd (sb w i j)))))) h) : kCalls r yX11_cut [.long (lN (cd w)), .int (nI i), .int (nI j)] h Q := by
  have r2 : 2 ≤ r := by omega
  have h1 := cd_lt hw hl
  refine sX11_cut _ _ _ ?_
  refine eX11_cut_0 ?_
  simp only [ks_nop, ks_lload_0, ks_iload_2, ks_iload_3, ks_iload, ks_lload, ks_istore, ks_lstore, ks_iconst, ks_lconst, ks_isub, ks_imul, ks_lsub, ks_land, ks_lor, ks_lshl, ks_lshr, ks_inv0, ks_inv1, ks_inv2, ks_inv4, ks_inv3, ks_inv5, ks_inv6, ks_inv7, ks_inv8, ks_lret, kldi_0, kldl_0, klda_0, kldz_0, kst1_0, kst2_0, kldi_1, kldl_1, klda_1, kldz_1, kst1_1n, kst2_1n, kst1_1i, kst2_1i, kst1_1r, kst2_1r, kst1_1z, kst2_1z, kst1_1l, kst2_1l, kldi_2, kldl_2, klda_2, kldz_2, kst1_2n, kst2_2n, kst1_2i, kst2_2i, kst1_2r, kst2_2r, kst1_2z, kst2_2z, kst1_2l, kst2_2l, kldi_3, kldl_3, klda_3, kldz_3, kst1_3n, kst2_3n, kst1_3i, kst2_3i, kst1_3r, kst2_3r, kst1_3z, kst2_3z, kst1_3l, kst2_3l, kldi_4, kldl_4, klda_4, kldz_4, kst1_4n, kst2_4n, kst1_4i, kst2_4i, kst1_4r, kst2_4r, kst1_4z, kst2_4z, kst1_4l, kst2_4l, kldi_5, kldl_5, klda_5, kldz_5, kst1_5n, kst2_5n, kst1_5i, kst2_5i, kst1_5r, kst2_5r, kst1_5z, kst2_5z, kst1_5l, kst2_5l, kldi_6, kldl_6, klda_6, kldz_6, kst1_6n, kst2_6n, kst1_6i, kst2_6i, kst1_6r, kst2_6r, kst1_6z, kst2_6z, kst1_6l, kst2_6l, kpr_r, kcat_n, kcat_i, kcat_r, kcat_z, kcat_l, kargs_0, kargs_s, kret_v, kret_n, kret_x, zl_2, jX11_cut_0, bX11_cut_0, Nat.reduceAdd, Nat.reduceLeDiff, Nat.reduceEqDiff, Nat.reduceSub, Nat.zero_le, Nat.add_left_cancel_iff, true_and, and_true, if_true, if_false, reduceIte, ne_eq, not_false_eq_true, Nat.add_eq_left, Nat.left_eq_add, r2]
  refine c_lengthOf (by omega) hw hl ?_
  simp only [ks_nop, ks_lload_0, ks_iload_2, ks_iload_3, ks_iload, ks_lload, ks_istore, ks_lstore, ks_iconst, ks_lconst, ks_isub, ks_imul, ks_lsub, ks_land, ks_lor, ks_lshl, ks_lshr, ks_inv0, ks_inv1, ks_inv2, ks_inv4, ks_inv3, ks_inv5, ks_inv6, ks_inv7, ks_inv8, ks_lret, kldi_0, kldl_0, klda_0, kldz_0, kst1_0, kst2_0, kldi_1, kldl_1, klda_1, kldz_1, kst1_1n, kst2_1n, kst1_1i, kst2_1i, kst1_1r, kst2_1r, kst1_1z, kst2_1z, kst1_1l, kst2_1l, kldi_2, kldl_2, klda_2, kldz_2, kst1_2n, kst2_2n, kst1_2i, kst2_2i, kst1_2r, kst2_2r, kst1_2z, kst2_2z, kst1_2l, kst2_2l, kldi_3, kldl_3, klda_3, kldz_3, kst1_3n, kst2_3n, kst1_3i, kst2_3i, kst1_3r, kst2_3r, kst1_3z, kst2_3z, kst1_3l, kst2_3l, kldi_4, kldl_4, klda_4, kldz_4, kst1_4n, kst2_4n, kst1_4i, kst2_4i, kst1_4r, kst2_4r, kst1_4z, kst2_4z, kst1_4l, kst2_4l, kldi_5, kldl_5, klda_5, kldz_5, kst1_5n, kst2_5n, kst1_5i, kst2_5i, kst1_5r, kst2_5r, kst1_5z, kst2_5z, kst1_5l, kst2_5l, kldi_6, kldl_6, klda_6, kldz_6, kst1_6n, kst2_6n, kst1_6i, kst2_6i, kst1_6r, kst2_6r, kst1_6z, kst2_6z, kst1_6l, kst2_6l, kpr_r, kcat_n, kcat_i, kcat_r, kcat_z, kcat_l, kargs_0, kargs_s, kret_v, kret_n, kret_x, zl_2, jX11_cut_0, bX11_cut_0]
  have e3 : 2 ^ (2 * (j - i)) ≤ 2 ^ 60 := Nat.pow_le_pow_right (by omega) (by omega)
  have e4 := Nat.two_pow_pos (2 * (j - i))
  rw [pk_sub hi, pk_sub hj, pk_mul, pk_mul, show (1 : Int64) = lN 1 from rfl, L_lsl (by omega), Nat.one_mul, L_lsr (by omega) (by omega), lN_sub (by omega)]
  have e5 : cd w / 2 ^ (2 * (w.length - j)) ≤ cd w := Nat.div_le_self _ _
  rw [L_mask (by omega) (by omega)]
  have e6 := Nat.mod_lt (cd w / 2 ^ (2 * (w.length - j))) e4
  rw [L_or (by omega) (by omega), Nat.or_comm]
  have e7 := n_or_add (a := 1) e6
  rw [Nat.one_mul] at e7
  rw [e7]
  have e8 := cd_sb hw hi hj
  rw [p4, p4] at e8
  rw [← e8]
  exact H
end RW

section JD
variable {r : Nat} {h : KH} {Q : KO → KH → Prop}
theorem c_fill {a n : Nat} {v : Int32} (hk : kK h a = (1, n)) (hn : n < 2 ^ 31) (H : Q (.inl none) (sIA h a (fa_fill (fun _ => v) (kI h a) n))) : kCalls r yJ7_fill_53178 [.ref a, .int v] h Q := by
  refine sJ7_fill_53178 _ _ ?_
  refine eJ7_fill_53178_0 ?_
  simp only [ks_nop, ks_aload_0, ks_iload_1, ks_iload_2, ks_iload_3, ks_istore_2, ks_istore_3, ks_iconst, ks_iinc, ks_icmp_ge, ks_goto, ks_iast, ks_alen, ks_slen, ks_vret, kldi_0, kldl_0, klda_0, kldz_0, kst1_0, kst2_0, kldi_1, kldl_1, klda_1, kldz_1, kst1_1n, kst2_1n, kst1_1i, kst2_1i, kst1_1r, kst2_1r, kst1_1z, kst2_1z, kst1_1l, kst2_1l, kldi_2, kldl_2, klda_2, kldz_2, kst1_2n, kst2_2n, kst1_2i, kst2_2i, kst1_2r, kst2_2r, kst1_2z, kst2_2z, kst1_2l, kst2_2l, kldi_3, kldl_3, klda_3, kldz_3, kst1_3n, kst2_3n, kst1_3i, kst2_3i, kst1_3r, kst2_3r, kst1_3z, kst2_3z, kst1_3l, kst2_3l, kcat_n, kcat_i, kcat_r, kcat_z, kcat_l, jJ7_fill_53178_0, bJ7_fill_53178_0, jJ7_fill_53178_5, bJ7_fill_53178_5, jJ7_fill_53178_20, bJ7_fill_53178_20, hk, Nat.reduceAdd, Nat.reduceLeDiff, Nat.reduceEqDiff, Nat.reduceSub, Nat.zero_le, Nat.add_left_cancel_iff, true_and, and_true, if_true, if_false, reduceIte, ne_eq, not_false_eq_true, Nat.add_eq_left, Nat.left_eq_add]
  have loop : ∀ i, i ≤ n → kRun r mJ7_fill_53178 5 [some (.ref a), some (.int v), some (.int (nI i)), some (.int (nI n))] [] (sIA h a (fa_fill (fun _ => v) (kI h a) i)) Q := by
    refine up_ind ?_ (fun i hi ih => ?_)
    · refine eJ7_fill_53178_5 ?_
      simp only [ks_nop, ks_aload_0, ks_iload_1, ks_iload_2, ks_iload_3, ks_istore_2, ks_istore_3, ks_iconst, ks_iinc, ks_icmp_ge, ks_goto, ks_iast, ks_alen, ks_slen, ks_vret, kldi_0, kldl_0, klda_0, kldz_0, kst1_0, kst2_0, kldi_1, kldl_1, klda_1, kldz_1, kst1_1n, kst2_1n, kst1_1i, kst2_1i, kst1_1r, kst2_1r, kst1_1z, kst2_1z, kst1_1l, kst2_1l, kldi_2, kldl_2, klda_2, kldz_2, kst1_2n, kst2_2n, kst1_2i, kst2_2i, kst1_2r, kst2_2r, kst1_2z, kst2_2z, kst1_2l, kst2_2l, kldi_3, kldl_3, klda_3, kldz_3, kst1_3n, kst2_3n, kst1_3i, kst2_3i, kst1_3r, kst2_3r, kst1_3z, kst2_3z, kst1_3l, kst2_3l, kcat_n, kcat_i, kcat_r, kcat_z, kcat_l, jJ7_fill_53178_0, bJ7_fill_53178_0, jJ7_fill_53178_5, bJ7_fill_53178_5, jJ7_fill_53178_20, bJ7_fill_53178_20]
      exact br_t (nI_le (Nat.le_refl n) hn) H
    · refine eJ7_fill_53178_5 ?_
      simp only [ks_nop, ks_aload_0, ks_iload_1, ks_iload_2, ks_iload_3, ks_istore_2, ks_istore_3, ks_iconst, ks_iinc, ks_icmp_ge, ks_goto, ks_iast, ks_alen, ks_slen, ks_vret, kldi_0, kldl_0, klda_0, kldz_0, kst1_0, kst2_0, kldi_1, kldl_1, klda_1, kldz_1, kst1_1n, kst2_1n, kst1_1i, kst2_1i, kst1_1r, kst2_1r, kst1_1z, kst2_1z, kst1_1l, kst2_1l, kldi_2, kldl_2, klda_2, kldz_2, kst1_2n, kst2_2n, kst1_2i, kst2_2i, kst1_2r, kst2_2r, kst1_2z, kst2_2z, kst1_2l, kst2_2l, kldi_3, kldl_3, klda_3, kldz_3, kst1_3n, kst2_3n, kst1_3i, kst2_3i, kst1_3r, kst2_3r, kst1_3z, kst2_3z, kst1_3l, kst2_3l, kcat_n, kcat_i, kcat_r, kcat_z, kcat_l, jJ7_fill_53178_0, bJ7_fill_53178_0, jJ7_fill_53178_5, bJ7_fill_53178_5, jJ7_fill_53178_20, bJ7_fill_53178_20, kI_sI, kL_sI, kR_sI, kK_sI, kI_sL, kL_sL, kR_sL, kK_sL, kI_sIA, kL_sIA, kR_sIA, kK_sIA, kI_sLA, kL_sLA, kR_sLA, kK_sLA, hk]
      refine br_f (nI_ge hi hn) ⟨trivial, vp_in_nI hi hn, ?_⟩
      rw [nI_clamp (by omega), nI_1, sI_A, kI_sIA, if_pos rfl, sIA_A, fa_fill_succ (fun _ => v) (kI h a) i]
      exact ih
  have h0 := loop 0 (Nat.zero_le n)
  rw [fa_fill_0, sIA_id] at h0
  exact h0
theorem z_log {m k : Nat} (h : 2 ^ k ≤ m) : Nat.log2 m = Nat.log2 (m / 2 ^ k) + k := by
  have hm : m ≠ 0 := fun e => by subst e; have := Nat.two_pow_pos k; omega
  have hq : m / 2 ^ k ≠ 0 := by
    have := (Nat.le_div_iff_mul_le (Nat.two_pow_pos k)).mpr (show 1 * 2 ^ k ≤ m by omega)
    omega
  apply (Nat.log2_eq_iff hm).mpr
  have h1 := (Nat.log2_eq_iff hq).mp rfl
  rw [Nat.pow_add, Nat.pow_succ, Nat.pow_add]
  have h2 := Nat.div_add_mod m (2 ^ k)
  have h3 := Nat.mod_lt m (Nat.two_pow_pos k)
  constructor
  · calc 2 ^ (m / 2 ^ k).log2 * 2 ^ k ≤ (m / 2 ^ k) * 2 ^ k := Nat.mul_le_mul_right _ h1.1
      _ ≤ m := Nat.div_mul_le_self m _
  · have h4 : m / 2 ^ k + 1 ≤ 2 ^ ((m / 2 ^ k).log2 + 1) := h1.2
    have h5 : (m / 2 ^ k + 1) * 2 ^ k ≤ 2 ^ ((m / 2 ^ k).log2 + 1) * 2 ^ k := Nat.mul_le_mul_right _ h4
    rw [Nat.add_mul, Nat.one_mul, Nat.pow_succ, Nat.mul_comm (m / 2 ^ k) (2 ^ k)] at h5
    have h6 : 2 ^ (m / 2 ^ k).log2 * 2 * 2 ^ k = 2 ^ (m / 2 ^ k).log2 * 2 ^ k * 2 := by rw [Nat.mul_assoc, Nat.mul_comm 2, ← Nat.mul_assoc]
    omega
theorem c_nlzI {m : Nat} (h0 : 0 < m) (hm : m < 2 ^ 31) (H : Q (.inl (some (.int (nI (31 - Nat.log2 m))))) h) : kCalls r yJ6_numberOfLeadingZeros_0f7a4 [.int (nI m)] h Q := by
  refine sJ6_numberOfLeadingZeros_0f7a4 _ ?_
  refine eJ6_numberOfLeadingZeros_0f7a4_0 ?_
  simp only [ks_nop, ks_iload_0, ks_iload_1, ks_istore_0, ks_istore_1, ks_iconst, ks_bipush, ks_sipush, ks_ldc_w, ks_iinc, ks_isub, ks_iushr, ks_if_ne, ks_icmp_lt, ks_if_gt, ks_goto, ks_iret0, kldi_0, kldl_0, klda_0, kldz_0, kst1_0, kst2_0, kldi_1, kldl_1, klda_1, kldz_1, kst1_1n, kst2_1n, kst1_1i, kst2_1i, kst1_1r, kst2_1r, kst1_1z, kst2_1z, kst1_1l, kst2_1l, kcat_n, kcat_i, kcat_r, kcat_z, kcat_l, zm_16, zm_8, zm_4, zm_2, zl_2, zl_4, zl_8, zl_16, zl_31, zl_32, zl_256, zl_65536, jJ6_numberOfLeadingZeros_0f7a4_0, bJ6_numberOfLeadingZeros_0f7a4_0, jJ6_numberOfLeadingZeros_0f7a4_13, bJ6_numberOfLeadingZeros_0f7a4_13, jJ6_numberOfLeadingZeros_0f7a4_14, bJ6_numberOfLeadingZeros_0f7a4_14, jJ6_numberOfLeadingZeros_0f7a4_15, bJ6_numberOfLeadingZeros_0f7a4_15, jJ6_numberOfLeadingZeros_0f7a4_33, bJ6_numberOfLeadingZeros_0f7a4_33, jJ6_numberOfLeadingZeros_0f7a4_48, bJ6_numberOfLeadingZeros_0f7a4_48, jJ6_numberOfLeadingZeros_0f7a4_61, bJ6_numberOfLeadingZeros_0f7a4_61, jJ6_numberOfLeadingZeros_0f7a4_73, bJ6_numberOfLeadingZeros_0f7a4_73]
  refine br_t (by rw [← nI_0]; exact nI_lt h0 hm) ?_
  have L73 : ∀ x n, 0 < x → x < 4 → n < 64 → Nat.log2 x ≤ n → n - Nat.log2 x = 31 - Nat.log2 m → kRun r mJ6_numberOfLeadingZeros_0f7a4 73 [some (.int (nI x)), some (.int (nI n))] [] h Q := by
    intro x n hx0 hx hn hl he
    refine eJ6_numberOfLeadingZeros_0f7a4_73 ?_
    simp only [ks_nop, ks_iload_0, ks_iload_1, ks_istore_0, ks_istore_1, ks_iconst, ks_bipush, ks_sipush, ks_ldc_w, ks_iinc, ks_isub, ks_iushr, ks_if_ne, ks_icmp_lt, ks_if_gt, ks_goto, ks_iret0, kldi_0, kldl_0, klda_0, kldz_0, kst1_0, kst2_0, kldi_1, kldl_1, klda_1, kldz_1, kst1_1n, kst2_1n, kst1_1i, kst2_1i, kst1_1r, kst2_1r, kst1_1z, kst2_1z, kst1_1l, kst2_1l, kcat_n, kcat_i, kcat_r, kcat_z, kcat_l, zm_16, zm_8, zm_4, zm_2, zl_2, zl_4, zl_8, zl_16, zl_31, zl_32, zl_256, zl_65536, jJ6_numberOfLeadingZeros_0f7a4_0, bJ6_numberOfLeadingZeros_0f7a4_0, jJ6_numberOfLeadingZeros_0f7a4_13, bJ6_numberOfLeadingZeros_0f7a4_13, jJ6_numberOfLeadingZeros_0f7a4_14, bJ6_numberOfLeadingZeros_0f7a4_14, jJ6_numberOfLeadingZeros_0f7a4_15, bJ6_numberOfLeadingZeros_0f7a4_15, jJ6_numberOfLeadingZeros_0f7a4_33, bJ6_numberOfLeadingZeros_0f7a4_33, jJ6_numberOfLeadingZeros_0f7a4_48, bJ6_numberOfLeadingZeros_0f7a4_48, jJ6_numberOfLeadingZeros_0f7a4_61, bJ6_numberOfLeadingZeros_0f7a4_61, jJ6_numberOfLeadingZeros_0f7a4_73, bJ6_numberOfLeadingZeros_0f7a4_73]
    refine ⟨by simp, ?_⟩
    rw [show (1 : Int32) = nI 1 from rfl, z_ush (by omega) (by omega)]
    have hlx : Nat.log2 x = x / 2 ^ 1 := by
      rcases (show x = 1 ∨ x = 2 ∨ x = 3 by omega) with rfl | rfl | rfl <;> decide
    rw [← hlx, pk_sub hl, he]
    exact H
  have step : ∀ (k : Nat) (x n : Nat), 2 ^ k ≤ x → k ≤ n → Nat.log2 x ≤ n → n - Nat.log2 x = 31 - Nat.log2 m → Nat.log2 (x / 2 ^ k) ≤ n - k ∧ (n - k) - Nat.log2 (x / 2 ^ k) = 31 - Nat.log2 m := by
    intro k x n h1 h2 h3 h4
    have := z_log h1
    omega
  have L61 : ∀ x n, 0 < x → x < 16 → n < 64 → 2 ≤ n → Nat.log2 x ≤ n → n - Nat.log2 x = 31 - Nat.log2 m → kRun r mJ6_numberOfLeadingZeros_0f7a4 61 [some (.int (nI x)), some (.int (nI n))] [] h Q := by
    intro x n hx0 hx hn hn2 hl he
    refine eJ6_numberOfLeadingZeros_0f7a4_61 ?_
    simp only [ks_nop, ks_iload_0, ks_iload_1, ks_istore_0, ks_istore_1, ks_iconst, ks_bipush, ks_sipush, ks_ldc_w, ks_iinc, ks_isub, ks_iushr, ks_if_ne, ks_icmp_lt, ks_if_gt, ks_goto, ks_iret0, kldi_0, kldl_0, klda_0, kldz_0, kst1_0, kst2_0, kldi_1, kldl_1, klda_1, kldz_1, kst1_1n, kst2_1n, kst1_1i, kst2_1i, kst1_1r, kst2_1r, kst1_1z, kst2_1z, kst1_1l, kst2_1l, kcat_n, kcat_i, kcat_r, kcat_z, kcat_l, zm_16, zm_8, zm_4, zm_2, zl_2, zl_4, zl_8, zl_16, zl_31, zl_32, zl_256, zl_65536, jJ6_numberOfLeadingZeros_0f7a4_0, bJ6_numberOfLeadingZeros_0f7a4_0, jJ6_numberOfLeadingZeros_0f7a4_13, bJ6_numberOfLeadingZeros_0f7a4_13, jJ6_numberOfLeadingZeros_0f7a4_14, bJ6_numberOfLeadingZeros_0f7a4_14, jJ6_numberOfLeadingZeros_0f7a4_15, bJ6_numberOfLeadingZeros_0f7a4_15, jJ6_numberOfLeadingZeros_0f7a4_33, bJ6_numberOfLeadingZeros_0f7a4_33, jJ6_numberOfLeadingZeros_0f7a4_48, bJ6_numberOfLeadingZeros_0f7a4_48, jJ6_numberOfLeadingZeros_0f7a4_61, bJ6_numberOfLeadingZeros_0f7a4_61, jJ6_numberOfLeadingZeros_0f7a4_73, bJ6_numberOfLeadingZeros_0f7a4_73]
    by_cases hc : x < 4
    · exact br_t (nI_lt hc (by omega)) (L73 x n hx0 hc hn hl he)
    · refine br_f (nI_nlt (by omega) (by omega)) ?_
      rw [z_ush (by omega) (by omega), nI_addn (by omega)]
      obtain ⟨e1, e2⟩ := step 2 x n (by omega) hn2 hl he
      exact L73 _ _ (by omega) (by omega) (by omega) e1 e2
  have L48 : ∀ x n, 0 < x → x < 256 → n < 64 → 6 ≤ n → Nat.log2 x ≤ n → n - Nat.log2 x = 31 - Nat.log2 m → kRun r mJ6_numberOfLeadingZeros_0f7a4 48 [some (.int (nI x)), some (.int (nI n))] [] h Q := by
    intro x n hx0 hx hn hn2 hl he
    refine eJ6_numberOfLeadingZeros_0f7a4_48 ?_
    simp only [ks_nop, ks_iload_0, ks_iload_1, ks_istore_0, ks_istore_1, ks_iconst, ks_bipush, ks_sipush, ks_ldc_w, ks_iinc, ks_isub, ks_iushr, ks_if_ne, ks_icmp_lt, ks_if_gt, ks_goto, ks_iret0, kldi_0, kldl_0, klda_0, kldz_0, kst1_0, kst2_0, kldi_1, kldl_1, klda_1, kldz_1, kst1_1n, kst2_1n, kst1_1i, kst2_1i, kst1_1r, kst2_1r, kst1_1z, kst2_1z, kst1_1l, kst2_1l, kcat_n, kcat_i, kcat_r, kcat_z, kcat_l, zm_16, zm_8, zm_4, zm_2, zl_2, zl_4, zl_8, zl_16, zl_31, zl_32, zl_256, zl_65536, jJ6_numberOfLeadingZeros_0f7a4_0, bJ6_numberOfLeadingZeros_0f7a4_0, jJ6_numberOfLeadingZeros_0f7a4_13, bJ6_numberOfLeadingZeros_0f7a4_13, jJ6_numberOfLeadingZeros_0f7a4_14, bJ6_numberOfLeadingZeros_0f7a4_14, jJ6_numberOfLeadingZeros_0f7a4_15, bJ6_numberOfLeadingZeros_0f7a4_15, jJ6_numberOfLeadingZeros_0f7a4_33, bJ6_numberOfLeadingZeros_0f7a4_33, jJ6_numberOfLeadingZeros_0f7a4_48, bJ6_numberOfLeadingZeros_0f7a4_48, jJ6_numberOfLeadingZeros_0f7a4_61, bJ6_numberOfLeadingZeros_0f7a4_61, jJ6_numberOfLeadingZeros_0f7a4_73, bJ6_numberOfLeadingZeros_0f7a4_73]
    by_cases hc : x < 16
    · exact br_t (nI_lt hc (by omega)) (L61 x n hx0 hc hn (by omega) hl he)
    · refine br_f (nI_nlt (by omega) (by omega)) ?_
      rw [z_ush (by omega) (by omega), nI_addn (by omega)]
      obtain ⟨e1, e2⟩ := step 4 x n (by omega) (by omega) hl he
      exact L61 _ _ (by omega) (by omega) (by omega) (by omega) e1 e2
  have L33 : ∀ x n, 0 < x → x < 65536 → n < 64 → 14 ≤ n → Nat.log2 x ≤ n → n - Nat.log2 x = 31 - Nat.log2 m → kRun r mJ6_numberOfLeadingZeros_0f7a4 33 [some (.int (nI x)), some (.int (nI n))] [] h Q := by
    intro x n hx0 hx hn hn2 hl he
    refine eJ6_numberOfLeadingZeros_0f7a4_33 ?_
    simp only [ks_nop, ks_iload_0, ks_iload_1, ks_istore_0, ks_istore_1, ks_iconst, ks_bipush, ks_sipush, ks_ldc_w, ks_iinc, ks_isub, ks_iushr, ks_if_ne, ks_icmp_lt, ks_if_gt, ks_goto, ks_iret0, kldi_0, kldl_0, klda_0, kldz_0, kst1_0, kst2_0, kldi_1, kldl_1, klda_1, kldz_1, kst1_1n, kst2_1n, kst1_1i, kst2_1i, kst1_1r, kst2_1r, kst1_1z, kst2_1z, kst1_1l, kst2_1l, kcat_n, kcat_i, kcat_r, kcat_z, kcat_l, zm_16, zm_8, zm_4, zm_2, zl_2, zl_4, zl_8, zl_16, zl_31, zl_32, zl_256, zl_65536, jJ6_numberOfLeadingZeros_0f7a4_0, bJ6_numberOfLeadingZeros_0f7a4_0, jJ6_numberOfLeadingZeros_0f7a4_13, bJ6_numberOfLeadingZeros_0f7a4_13, jJ6_numberOfLeadingZeros_0f7a4_14, bJ6_numberOfLeadingZeros_0f7a4_14, jJ6_numberOfLeadingZeros_0f7a4_15, bJ6_numberOfLeadingZeros_0f7a4_15, jJ6_numberOfLeadingZeros_0f7a4_33, bJ6_numberOfLeadingZeros_0f7a4_33, jJ6_numberOfLeadingZeros_0f7a4_48, bJ6_numberOfLeadingZeros_0f7a4_48, jJ6_numberOfLeadingZeros_0f7a4_61, bJ6_numberOfLeadingZeros_0f7a4_61, jJ6_numberOfLeadingZeros_0f7a4_73, bJ6_numberOfLeadingZeros_0f7a4_73]
    by_cases hc : x < 256
    · exact br_t (nI_lt hc (by omega)) (L48 x n hx0 hc hn (by omega) hl he)
    · refine br_f (nI_nlt (by omega) (by omega)) ?_
      rw [z_ush (by omega) (by omega), nI_addn (by omega)]
      obtain ⟨e1, e2⟩ := step 8 x n (by omega) (by omega) hl he
      exact L48 _ _ (by omega) (by omega) (by omega) (by omega) e1 e2
  have hlm : Nat.log2 m ≤ 30 := by
    have := (Nat.log2_lt (n := m) (k := 31) (by omega)).mpr hm
    omega
  by_cases hc : m < 65536
  · exact br_t (nI_lt hc (by omega)) (L33 m 31 h0 hc (by omega) (by omega) (by omega) rfl)
  · refine br_f (nI_nlt (by omega) (by omega)) ?_
    rw [z_ush (by omega) (by omega), nI_addn (by omega)]
    obtain ⟨e1, e2⟩ := step 16 m 31 (by omega) (by omega) (by omega) rfl
    exact L33 _ 15 (by omega) (by omega) (by omega) (by omega) e1 e2
/-- an int that is negative has no zeros ahead -/
theorem c_nlzN {x : Int32} (hx : x < 0) (H : Q (.inl (some (.int 0))) h) : kCalls r yJ6_numberOfLeadingZeros_0f7a4 [.int x] h Q := by
  refine sJ6_numberOfLeadingZeros_0f7a4 _ ?_
  refine eJ6_numberOfLeadingZeros_0f7a4_0 ?_
  simp only [ks_nop, ks_iload_0, ks_iload_1, ks_istore_0, ks_istore_1, ks_iconst, ks_bipush, ks_sipush, ks_ldc_w, ks_iinc, ks_isub, ks_iushr, ks_if_ne, ks_icmp_lt, ks_if_gt, ks_goto, ks_iret0, kldi_0, kldl_0, klda_0, kldz_0, kst1_0, kst2_0, kldi_1, kldl_1, klda_1, kldz_1, kst1_1n, kst2_1n, kst1_1i, kst2_1i, kst1_1r, kst2_1r, kst1_1z, kst2_1z, kst1_1l, kst2_1l, kcat_n, kcat_i, kcat_r, kcat_z, kcat_l, zm_16, zm_8, zm_4, zm_2, zl_2, zl_4, zl_8, zl_16, zl_31, zl_32, zl_256, zl_65536, jJ6_numberOfLeadingZeros_0f7a4_0, bJ6_numberOfLeadingZeros_0f7a4_0, jJ6_numberOfLeadingZeros_0f7a4_13, bJ6_numberOfLeadingZeros_0f7a4_13, jJ6_numberOfLeadingZeros_0f7a4_14, bJ6_numberOfLeadingZeros_0f7a4_14, jJ6_numberOfLeadingZeros_0f7a4_15, bJ6_numberOfLeadingZeros_0f7a4_15, jJ6_numberOfLeadingZeros_0f7a4_33, bJ6_numberOfLeadingZeros_0f7a4_33, jJ6_numberOfLeadingZeros_0f7a4_48, bJ6_numberOfLeadingZeros_0f7a4_48, jJ6_numberOfLeadingZeros_0f7a4_61, bJ6_numberOfLeadingZeros_0f7a4_61, jJ6_numberOfLeadingZeros_0f7a4_73, bJ6_numberOfLeadingZeros_0f7a4_73]
  have h1 := (fa_of_lt hx)
  refine br_f h1.2.2.1 (br_t h1.2.2.2.1 ?_)
  refine eJ6_numberOfLeadingZeros_0f7a4_14 ?_
  simp only [ks_nop, ks_iload_0, ks_iload_1, ks_istore_0, ks_istore_1, ks_iconst, ks_bipush, ks_sipush, ks_ldc_w, ks_iinc, ks_isub, ks_iushr, ks_if_ne, ks_icmp_lt, ks_if_gt, ks_goto, ks_iret0, kldi_0, kldl_0, klda_0, kldz_0, kst1_0, kst2_0, kldi_1, kldl_1, klda_1, kldz_1, kst1_1n, kst2_1n, kst1_1i, kst2_1i, kst1_1r, kst2_1r, kst1_1z, kst2_1z, kst1_1l, kst2_1l, kcat_n, kcat_i, kcat_r, kcat_z, kcat_l, zm_16, zm_8, zm_4, zm_2, zl_2, zl_4, zl_8, zl_16, zl_31, zl_32, zl_256, zl_65536, jJ6_numberOfLeadingZeros_0f7a4_0, bJ6_numberOfLeadingZeros_0f7a4_0, jJ6_numberOfLeadingZeros_0f7a4_13, bJ6_numberOfLeadingZeros_0f7a4_13, jJ6_numberOfLeadingZeros_0f7a4_14, bJ6_numberOfLeadingZeros_0f7a4_14, jJ6_numberOfLeadingZeros_0f7a4_15, bJ6_numberOfLeadingZeros_0f7a4_15, jJ6_numberOfLeadingZeros_0f7a4_33, bJ6_numberOfLeadingZeros_0f7a4_33, jJ6_numberOfLeadingZeros_0f7a4_48, bJ6_numberOfLeadingZeros_0f7a4_48, jJ6_numberOfLeadingZeros_0f7a4_61, bJ6_numberOfLeadingZeros_0f7a4_61, jJ6_numberOfLeadingZeros_0f7a4_73, bJ6_numberOfLeadingZeros_0f7a4_73]
  exact ⟨by simp, H⟩
end JD

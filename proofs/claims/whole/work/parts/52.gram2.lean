/-! the grammar's tables by sets of names -/
def ofs (f : Nat → Nat) (m : Nat) : Nat := orf (fun n => if m.testBit n then f n else 0) 6
theorem ofs_bit (f : Nat → Nat) (m i : Nat) : (ofs f m).testBit i = true ↔ ∃ n, n < 6 ∧ m.testBit n = true ∧ (f n).testBit i = true := by
  unfold ofs
  rw [orf_bit]
  constructor
  · rintro ⟨b, h1, h2⟩
    by_cases q : m.testBit b = true
    · rw [if_pos q] at h2; exact ⟨b, h1, q, h2⟩
    · rw [if_neg q, Nat.zero_testBit] at h2; cases h2
  · rintro ⟨n, h1, h2, h3⟩
    exact ⟨n, h1, by rw [if_pos h2]; exact h3⟩
theorem ofs_lt {f : Nat → Nat} {k : Nat} (hf : ∀ n, n < 6 → f n < 2 ^ k) (m : Nat) : ofs f m < 2 ^ k := by
  refine orf_lt _ (fun b hb => ?_)
  show (if m.testBit b then f b else 0) < 2 ^ k
  split
  · exact hf b hb
  · exact Nat.two_pow_pos k
theorem ofs_0 (f : Nat → Nat) : ofs f 0 = 0 := by
  apply Nat.eq_of_testBit_eq
  intro i
  rw [Nat.zero_testBit, Bool.eq_false_iff]
  intro h
  obtain ⟨n, _, h2, _⟩ := (ofs_bit f 0 i).mp h
  rw [Nat.zero_testBit] at h2; cases h2
theorem bool_ext {a b : Bool} (h : a = true ↔ b = true) : a = b := by
  cases a <;> cases b <;> simp at h ⊢
theorem ofs_1 (f : Nat → Nat) {t : Nat} (ht : t < 6) : ofs f (2 ^ t) = f t := by
  apply Nat.eq_of_testBit_eq
  intro i
  apply bool_ext
  rw [ofs_bit]
  constructor
  · rintro ⟨n, h1, h2, h3⟩
    rw [nb_pow, decide_eq_true_iff] at h2
    rw [h2]; exact h3
  · intro h
    exact ⟨t, ht, by rw [nb_pow]; simp, h⟩
theorem ofs_split (f : Nat → Nat) {m t : Nat} (ht : m.testBit t = true) : ofs f m = ofs f (2 ^ t) ||| ofs f (m ^^^ 2 ^ t) := by
  apply Nat.eq_of_testBit_eq
  intro i
  apply bool_ext
  rw [Nat.testBit_or, Bool.or_eq_true, ofs_bit, ofs_bit, ofs_bit]
  constructor
  · rintro ⟨n, h1, h2, h3⟩
    by_cases e : t = n
    · exact Or.inl ⟨n, h1, by rw [nb_pow]; simp [e], h3⟩
    · exact Or.inr ⟨n, h1, by rw [Nat.testBit_xor, nb_pow, h2]; simp [e], h3⟩
  · rintro (⟨n, h1, h2, h3⟩ | ⟨n, h1, h2, h3⟩)
    · rw [nb_pow, decide_eq_true_iff] at h2
      exact ⟨n, h1, by rw [← h2]; exact ht, h3⟩
    · rw [Nat.testBit_xor, nb_pow] at h2
      by_cases e : t = n
      · subst e; rw [ht] at h2; simp at h2
      · refine ⟨n, h1, ?_, h3⟩
        simpa [e] using h2
def upN (B : GB) (nn n : Nat) : Nat := gup B nn (2 ^ n)
def stN (B : GB) (n : Nat) : Nat := sw B (4 + n)
def waN (B : GB) (n : Nat) : Nat := wf B (4 + n)
/-- the tables by sets of names, up to a bound -/
def NS (fu : Nat → Int32) (fs fw : Nat → Int64) (B : GB) (nn k : Nat) : Prop := ∀ m, m < k → fu m = nI (ofs (upN B nn) m) ∧ fs m = lN (ofs (stN B) m) ∧ fw m = lN (ofs (waN B) m)
section GR
variable {r : Nat} {h : KH} {Q : KO → KH → Prop} {g : Nat} {B : GB} {nn : Nat}
theorem gup_lt (hB : bok B nn) {x : Nat} (hx : x < 2 ^ 6) : gup B nn x < 2 ^ 6 := rnds_lt hB hx 6
theorem p2_6 {t : Nat} (h : t < 6) : 2 ^ t < 2 ^ 6 := Nat.pow_lt_pow_right (by omega) h
theorem GA_fr {S T : List Nat} {h h' : KH} (f : Fr S T h h') (G : GA (kI h g) (kI h (g + 2)) (kI h (g + 3)) (kI h (g + 4)) B nn) (h0 : g ∉ S) (h2 : g + 2 ∉ S) (h3 : g + 3 ∉ S) (h4 : g + 4 ∉ S) : GA (kI h' g) (kI h' (g + 2)) (kI h' (g + 3)) (kI h' (g + 4)) B nn := by
  rw [f.2.1 _ h0, f.2.1 _ h2, f.2.1 _ h3, f.2.1 _ h4]; exact G
theorem NS_st {fu : Nat → Int32} {fs fw : Nat → Int64} {k : Nat} (N : NS fu fs fw B nn k) {x : Int32} {y z : Int64} (hx : x = nI (ofs (upN B nn) k)) (hy : y = lN (ofs (stN B) k)) (hz : z = lN (ofs (waN B) k)) : NS (upd fu k x) (vp_updL fs k y) (vp_updL fw k z) B nn (k + 1) := by
  intro m hm
  by_cases e : m = k
  · subst e
    rw [upd_at, updL_at, updL_at]
    exact ⟨hx, hy, hz⟩
  · rw [upd_ne _ _ e, updL_ne _ _ e, updL_ne _ _ e]
    exact N m (by omega)
theorem c_prepareNameSets (hr : 4 ≤ r) (w : kW h) (hg : isG g) (G : GA (kI h g) (kI h (g + 2)) (kI h (g + 3)) (kI h (g + 4)) B nn) (hB : bok B nn) (Z : NS (kI h (g + 6)) (kL h (g + 8)) (kL h (g + 10)) B nn 1)
    (H : ∀ h', Fr [g + 6] [g + 8, g + 10] h h' → NS (kI h' (g + 6)) (kL h' (g + 8)) (kL h' (g + 10)) B nn 64 → Q (.inl none) h') : kCalls r yX1_prepareNameSets [.ref g] h Q := by
  have r2 : 2 ≤ r := by omega
  refine sX1_prepareNameSets _ ?_
  refine eX1_prepareNameSets_0 ?_
  simp only [ks_nop, ks_aload_0, ks_iload_1, ks_iload_2, ks_iload_3, ks_iload, ks_istore_1, ks_istore_2, ks_istore_3, ks_istore, ks_iconst, ks_bipush, ks_iinc, ks_iand, ks_ior, ks_ixor, ks_ineg, ks_lor, ks_if_ne, ks_icmp_ge, ks_goto, ks_get0, ks_get3, ks_get1, ks_get2, ks_iald, ks_sld, ks_lald, ks_iast, ks_last, ks_inv0, ks_inv1, ks_inv2, ks_inv4, ks_inv3, ks_inv5, ks_inv6, ks_inv7, ks_vret, kldi_0, kldl_0, klda_0, kldz_0, kst1_0, kst2_0, kldi_1, kldl_1, klda_1, kldz_1, kst1_1n, kst2_1n, kst1_1i, kst2_1i, kst1_1r, kst2_1r, kst1_1z, kst2_1z, kst1_1l, kst2_1l, kldi_2, kldl_2, klda_2, kldz_2, kst1_2n, kst2_2n, kst1_2i, kst2_2i, kst1_2r, kst2_2r, kst1_2z, kst2_2z, kst1_2l, kst2_2l, kldi_3, kldl_3, klda_3, kldz_3, kst1_3n, kst2_3n, kst1_3i, kst2_3i, kst1_3r, kst2_3r, kst1_3z, kst2_3z, kst1_3l, kst2_3l, kldi_4, kldl_4, klda_4, kldz_4, kst1_4n, kst2_4n, kst1_4i, kst2_4i, kst1_4r, kst2_4r, kst1_4z, kst2_4z, kst1_4l, kst2_4l, kpr_r, kcat_n, kcat_i, kcat_r, kcat_z, kcat_l, kargs_0, kargs_s, kret_v, kret_n, kret_x, zl_64, jX1_prepareNameSets_0, bX1_prepareNameSets_0, jX1_prepareNameSets_2, bX1_prepareNameSets_2, jX1_prepareNameSets_65, bX1_prepareNameSets_65, jX1_prepareNameSets_122, bX1_prepareNameSets_122, jX1_prepareNameSets_128, bX1_prepareNameSets_128, Nat.reduceAdd, Nat.reduceLeDiff, Nat.reduceEqDiff, Nat.reduceSub, Nat.zero_le, Nat.add_left_cancel_iff, true_and, and_true, if_true, if_false, reduceIte, ne_eq, not_false_eq_true, Nat.add_eq_left, Nat.left_eq_add, kI_sI, kL_sI, kR_sI, kK_sI, kI_sL, kL_sL, kR_sL, kK_sL, kI_sIA, kL_sIA, kR_sIA, kK_sIA, kI_sLA, kL_sLA, kR_sLA, kK_sLA]
  have loop : ∀ k, k ≤ 63 → ∀ h', Fr [g + 6] [g + 8, g + 10] h h' → NS (kI h' (g + 6)) (kL h' (g + 8)) (kL h' (g + 10)) B nn (k + 1) → ∀ e2 e3 e4 : Option Value, kRun r mX1_prepareNameSets 2 [some (.ref g), some (.int (nI (k + 1))), e2, e3, e4] [] h' Q := by
    refine up_ind ?_ (fun k hk ih => ?_)
    · intro h' f N e2 e3 e4
      refine eX1_prepareNameSets_2 ?_
      simp only [ks_nop, ks_aload_0, ks_iload_1, ks_iload_2, ks_iload_3, ks_iload, ks_istore_1, ks_istore_2, ks_istore_3, ks_istore, ks_iconst, ks_bipush, ks_iinc, ks_iand, ks_ior, ks_ixor, ks_ineg, ks_lor, ks_if_ne, ks_icmp_ge, ks_goto, ks_get0, ks_get3, ks_get1, ks_get2, ks_iald, ks_sld, ks_lald, ks_iast, ks_last, ks_inv0, ks_inv1, ks_inv2, ks_inv4, ks_inv3, ks_inv5, ks_inv6, ks_inv7, ks_vret, kldi_0, kldl_0, klda_0, kldz_0, kst1_0, kst2_0, kldi_1, kldl_1, klda_1, kldz_1, kst1_1n, kst2_1n, kst1_1i, kst2_1i, kst1_1r, kst2_1r, kst1_1z, kst2_1z, kst1_1l, kst2_1l, kldi_2, kldl_2, klda_2, kldz_2, kst1_2n, kst2_2n, kst1_2i, kst2_2i, kst1_2r, kst2_2r, kst1_2z, kst2_2z, kst1_2l, kst2_2l, kldi_3, kldl_3, klda_3, kldz_3, kst1_3n, kst2_3n, kst1_3i, kst2_3i, kst1_3r, kst2_3r, kst1_3z, kst2_3z, kst1_3l, kst2_3l, kldi_4, kldl_4, klda_4, kldz_4, kst1_4n, kst2_4n, kst1_4i, kst2_4i, kst1_4r, kst2_4r, kst1_4z, kst2_4z, kst1_4l, kst2_4l, kpr_r, kcat_n, kcat_i, kcat_r, kcat_z, kcat_l, kargs_0, kargs_s, kret_v, kret_n, kret_x, zl_64, jX1_prepareNameSets_0, bX1_prepareNameSets_0, jX1_prepareNameSets_2, bX1_prepareNameSets_2, jX1_prepareNameSets_65, bX1_prepareNameSets_65, jX1_prepareNameSets_122, bX1_prepareNameSets_122, jX1_prepareNameSets_128, bX1_prepareNameSets_128, Nat.reduceAdd, Nat.reduceLeDiff, Nat.reduceEqDiff, Nat.reduceSub, Nat.zero_le, Nat.add_left_cancel_iff, true_and, and_true, if_true, if_false, reduceIte, ne_eq, not_false_eq_true, Nat.add_eq_left, Nat.left_eq_add, kI_sI, kL_sI, kR_sI, kK_sI, kI_sL, kL_sL, kR_sL, kK_sL, kI_sIA, kL_sIA, kR_sIA, kK_sIA, kI_sLA, kL_sLA, kR_sLA, kK_sLA]
      try simp (disch := omega) only [a_0, a_1, a_L0, a_L1, a_lt, a_le, a_eq, a_sub, a_addn, nI_add, pk_mul, a_in, nI_clamp, a_eqn, a_eqn', a_ltn, a_ltn', a_len, a_len', a_shl1, z_shr, fa_and, fa_or, a_tb, a_tb0, a_b0, a_b1, a_bi, a_lc0, a_lcle, a_lcge, a_lclt, a_lcgt, Nat.reduceAdd, Nat.reduceSub, Nat.reduceMul, Nat.reduceLT, Nat.reduceLeDiff, Nat.reduceEqDiff, true_and, and_true, if_true, if_false, reduceIte, ne_eq, not_false_eq_true, not_true_eq_false, true_implies, false_implies, Nat.not_lt, Nat.not_le, Nat.le_refl, Nat.lt_irrefl, Nat.testBit_shiftRight, Nat.add_zero, Bool.not_eq_false, Bool.not_eq_true, Decidable.not_not]
      exact H h' f N
    · intro h' f N e2 e3 e4
      have w' := Fr_W f w
      have G' := GA_fr f G (by simp) (by simp) (by simp) (by simp)
      obtain ⟨t, t1, t2, t3, t4, t5⟩ := a_lb ⟨k + 1, by omega⟩ (by simp)
      simp only at t1 t2 t3 t4 t5
      have ht := t.isLt
      generalize t.val = t at t1 t2 t3 t4 t5 ht
      have hp := p2_6 ht
      have hp0 := Nat.two_pow_pos t
      have b1 : ∀ m, ofs (stN B) m < 2 ^ 64 := ofs_lt (fun n _ => sw_lt hB _)
      have b2 : ∀ m, ofs (waN B) m < 2 ^ 64 := ofs_lt (fun n _ => wf_lt hB _)
      have next : ∀ h'', Fr [g + 6] [g + 8, g + 10] h h'' → NS (kI h'' (g + 6)) (kL h'' (g + 8)) (kL h'' (g + 10)) B nn (k + 1 + 1) → ∀ e2 e3 e4 : Option Value, kRun r mX1_prepareNameSets 122 [some (.ref g), some (.int (nI (k + 1))), e2, e3, e4] [] h'' Q := by
        intro h'' f'' N'' e2 e3 e4
        refine eX1_prepareNameSets_122 ?_
        simp only [ks_nop, ks_aload_0, ks_iload_1, ks_iload_2, ks_iload_3, ks_iload, ks_istore_1, ks_istore_2, ks_istore_3, ks_istore, ks_iconst, ks_bipush, ks_iinc, ks_iand, ks_ior, ks_ixor, ks_ineg, ks_lor, ks_if_ne, ks_icmp_ge, ks_goto, ks_get0, ks_get3, ks_get1, ks_get2, ks_iald, ks_sld, ks_lald, ks_iast, ks_last, ks_inv0, ks_inv1, ks_inv2, ks_inv4, ks_inv3, ks_inv5, ks_inv6, ks_inv7, ks_vret, kldi_0, kldl_0, klda_0, kldz_0, kst1_0, kst2_0, kldi_1, kldl_1, klda_1, kldz_1, kst1_1n, kst2_1n, kst1_1i, kst2_1i, kst1_1r, kst2_1r, kst1_1z, kst2_1z, kst1_1l, kst2_1l, kldi_2, kldl_2, klda_2, kldz_2, kst1_2n, kst2_2n, kst1_2i, kst2_2i, kst1_2r, kst2_2r, kst1_2z, kst2_2z, kst1_2l, kst2_2l, kldi_3, kldl_3, klda_3, kldz_3, kst1_3n, kst2_3n, kst1_3i, kst2_3i, kst1_3r, kst2_3r, kst1_3z, kst2_3z, kst1_3l, kst2_3l, kldi_4, kldl_4, klda_4, kldz_4, kst1_4n, kst2_4n, kst1_4i, kst2_4i, kst1_4r, kst2_4r, kst1_4z, kst2_4z, kst1_4l, kst2_4l, kpr_r, kcat_n, kcat_i, kcat_r, kcat_z, kcat_l, kargs_0, kargs_s, kret_v, kret_n, kret_x, zl_64, jX1_prepareNameSets_0, bX1_prepareNameSets_0, jX1_prepareNameSets_2, bX1_prepareNameSets_2, jX1_prepareNameSets_65, bX1_prepareNameSets_65, jX1_prepareNameSets_122, bX1_prepareNameSets_122, jX1_prepareNameSets_128, bX1_prepareNameSets_128, Nat.reduceAdd, Nat.reduceLeDiff, Nat.reduceEqDiff, Nat.reduceSub, Nat.zero_le, Nat.add_left_cancel_iff, true_and, and_true, if_true, if_false, reduceIte, ne_eq, not_false_eq_true, Nat.add_eq_left, Nat.left_eq_add, kI_sI, kL_sI, kR_sI, kK_sI, kI_sL, kL_sL, kR_sL, kK_sL, kI_sIA, kL_sIA, kR_sIA, kK_sIA, kI_sLA, kL_sLA, kR_sLA, kK_sLA]
        try simp (disch := omega) only [a_0, a_1, a_L0, a_L1, a_lt, a_le, a_eq, a_sub, a_addn, nI_add, pk_mul, a_in, nI_clamp, a_eqn, a_eqn', a_ltn, a_ltn', a_len, a_len', a_shl1, z_shr, fa_and, fa_or, a_tb, a_tb0, a_b0, a_b1, a_bi, a_lc0, a_lcle, a_lcge, a_lclt, a_lcgt, Nat.reduceAdd, Nat.reduceSub, Nat.reduceMul, Nat.reduceLT, Nat.reduceLeDiff, Nat.reduceEqDiff, true_and, and_true, if_true, if_false, reduceIte, ne_eq, not_false_eq_true, not_true_eq_false, true_implies, false_implies, Nat.not_lt, Nat.not_le, Nat.le_refl, Nat.lt_irrefl, Nat.testBit_shiftRight, Nat.add_zero, Bool.not_eq_false, Bool.not_eq_true, Decidable.not_not]
        exact ih h'' f'' N'' _ _ _
      have w := w'
      refine eX1_prepareNameSets_2 ?_
      simp only [ks_nop, ks_aload_0, ks_iload_1, ks_iload_2, ks_iload_3, ks_iload, ks_istore_1, ks_istore_2, ks_istore_3, ks_istore, ks_iconst, ks_bipush, ks_iinc, ks_iand, ks_ior, ks_ixor, ks_ineg, ks_lor, ks_if_ne, ks_icmp_ge, ks_goto, ks_get0, ks_get3, ks_get1, ks_get2, ks_iald, ks_sld, ks_lald, ks_iast, ks_last, ks_inv0, ks_inv1, ks_inv2, ks_inv4, ks_inv3, ks_inv5, ks_inv6, ks_inv7, ks_vret, kldi_0, kldl_0, klda_0, kldz_0, kst1_0, kst2_0, kldi_1, kldl_1, klda_1, kldz_1, kst1_1n, kst2_1n, kst1_1i, kst2_1i, kst1_1r, kst2_1r, kst1_1z, kst2_1z, kst1_1l, kst2_1l, kldi_2, kldl_2, klda_2, kldz_2, kst1_2n, kst2_2n, kst1_2i, kst2_2i, kst1_2r, kst2_2r, kst1_2z, kst2_2z, kst1_2l, kst2_2l, kldi_3, kldl_3, klda_3, kldz_3, kst1_3n, kst2_3n, kst1_3i, kst2_3i, kst1_3r, kst2_3r, kst1_3z, kst2_3z, kst1_3l, kst2_3l, kldi_4, kldl_4, klda_4, kldz_4, kst1_4n, kst2_4n, kst1_4i, kst2_4i, kst1_4r, kst2_4r, kst1_4z, kst2_4z, kst1_4l, kst2_4l, kpr_r, kcat_n, kcat_i, kcat_r, kcat_z, kcat_l, kargs_0, kargs_s, kret_v, kret_n, kret_x, zl_64, jX1_prepareNameSets_0, bX1_prepareNameSets_0, jX1_prepareNameSets_2, bX1_prepareNameSets_2, jX1_prepareNameSets_65, bX1_prepareNameSets_65, jX1_prepareNameSets_122, bX1_prepareNameSets_122, jX1_prepareNameSets_128, bX1_prepareNameSets_128, Nat.reduceAdd, Nat.reduceLeDiff, Nat.reduceEqDiff, Nat.reduceSub, Nat.zero_le, Nat.add_left_cancel_iff, true_and, and_true, if_true, if_false, reduceIte, ne_eq, not_false_eq_true, Nat.add_eq_left, Nat.left_eq_add, kI_sI, kL_sI, kR_sI, kK_sI, kI_sL, kL_sL, kR_sL, kK_sL, kI_sIA, kL_sIA, kR_sIA, kK_sIA, kI_sLA, kL_sLA, kR_sLA, kK_sLA, gK w hg, gR_0 w hg, gK_1 w hg, gR_1 w hg, gK_2 w hg, gR_2 w hg, gK_3 w hg, gR_3 w hg, gK_4 w hg, gR_4 w hg, gK_5 w hg, gR_11 w hg, gK_6 w hg, gR_12 w hg, gK_7 w hg, gR_13 w hg, gK_8 w hg, gR_14 w hg, gK_9 w hg, gR_15 w hg, gK_10 w hg, gR_16 w hg, gK_11 w hg, t1, nx_xor, r2]
      try simp (disch := omega) only [a_0, a_1, a_L0, a_L1, a_lt, a_le, a_eq, a_sub, a_addn, nI_add, pk_mul, a_in, nI_clamp, a_eqn, a_eqn', a_ltn, a_ltn', a_len, a_len', a_shl1, z_shr, fa_and, fa_or, a_tb, a_tb0, a_b0, a_b1, a_bi, a_lc0, a_lcle, a_lcge, a_lclt, a_lcgt, Nat.reduceAdd, Nat.reduceSub, Nat.reduceMul, Nat.reduceLT, Nat.reduceLeDiff, Nat.reduceEqDiff, true_and, and_true, if_true, if_false, reduceIte, ne_eq, not_false_eq_true, not_true_eq_false, true_implies, false_implies, Nat.not_lt, Nat.not_le, Nat.le_refl, Nat.lt_irrefl, Nat.testBit_shiftRight, Nat.add_zero, Bool.not_eq_false, Bool.not_eq_true, Decidable.not_not, gK w hg, gR_0 w hg, gK_1 w hg, gR_1 w hg, gK_2 w hg, gR_2 w hg, gK_3 w hg, gR_3 w hg, gK_4 w hg, gR_4 w hg, gK_5 w hg, gR_11 w hg, gK_6 w hg, gR_12 w hg, gK_7 w hg, gR_13 w hg, gK_8 w hg, gR_14 w hg, gK_9 w hg, gR_15 w hg, gK_10 w hg, gR_16 w hg, gK_11 w hg, t1, nx_xor, r2]
      refine ⟨fun c => absurd c (by omega), fun _ => ⟨fun c => ?_, fun c => ?_⟩⟩
      · obtain ⟨n1, n2, n3⟩ := N (2 ^ t) (by have : ¬ k + 1 = 2 ^ t := fun q => c (t5.mpr q); omega)
        obtain ⟨m1, m2, m3⟩ := N (k + 1 ^^^ 2 ^ t) (by omega)
        rw [n1, n2, n3, m1, m2, m3]
        refine next _ (Fr_sL (Fr_sL (Fr_sI f (by simp)) (by simp)) (by simp)) ?_ _ _ _
        simp only [ks_nop, ks_aload_0, ks_iload_1, ks_iload_2, ks_iload_3, ks_iload, ks_istore_1, ks_istore_2, ks_istore_3, ks_istore, ks_iconst, ks_bipush, ks_iinc, ks_iand, ks_ior, ks_ixor, ks_ineg, ks_lor, ks_if_ne, ks_icmp_ge, ks_goto, ks_get0, ks_get3, ks_get1, ks_get2, ks_iald, ks_sld, ks_lald, ks_iast, ks_last, ks_inv0, ks_inv1, ks_inv2, ks_inv4, ks_inv3, ks_inv5, ks_inv6, ks_inv7, ks_vret, kldi_0, kldl_0, klda_0, kldz_0, kst1_0, kst2_0, kldi_1, kldl_1, klda_1, kldz_1, kst1_1n, kst2_1n, kst1_1i, kst2_1i, kst1_1r, kst2_1r, kst1_1z, kst2_1z, kst1_1l, kst2_1l, kldi_2, kldl_2, klda_2, kldz_2, kst1_2n, kst2_2n, kst1_2i, kst2_2i, kst1_2r, kst2_2r, kst1_2z, kst2_2z, kst1_2l, kst2_2l, kldi_3, kldl_3, klda_3, kldz_3, kst1_3n, kst2_3n, kst1_3i, kst2_3i, kst1_3r, kst2_3r, kst1_3z, kst2_3z, kst1_3l, kst2_3l, kldi_4, kldl_4, klda_4, kldz_4, kst1_4n, kst2_4n, kst1_4i, kst2_4i, kst1_4r, kst2_4r, kst1_4z, kst2_4z, kst1_4l, kst2_4l, kpr_r, kcat_n, kcat_i, kcat_r, kcat_z, kcat_l, kargs_0, kargs_s, kret_v, kret_n, kret_x, zl_64, jX1_prepareNameSets_0, bX1_prepareNameSets_0, jX1_prepareNameSets_2, bX1_prepareNameSets_2, jX1_prepareNameSets_65, bX1_prepareNameSets_65, jX1_prepareNameSets_122, bX1_prepareNameSets_122, jX1_prepareNameSets_128, bX1_prepareNameSets_128, Nat.reduceAdd, Nat.reduceLeDiff, Nat.reduceEqDiff, Nat.reduceSub, Nat.zero_le, Nat.add_left_cancel_iff, true_and, and_true, if_true, if_false, reduceIte, ne_eq, not_false_eq_true, Nat.add_eq_left, Nat.left_eq_add, kI_sI, kL_sI, kR_sI, kK_sI, kI_sL, kL_sL, kR_sL, kK_sL, kI_sIA, kL_sIA, kR_sIA, kK_sIA, kI_sLA, kL_sLA, kR_sLA, kK_sLA]
        refine NS_st N ?_ ?_ ?_
        · rw [fa_or, ofs_split _ t2]
        · rw [L_or (b1 _) (b1 _), ofs_split _ t2]
        · rw [L_or (b2 _) (b2 _), ofs_split _ t2]
      · have e : k + 1 = 2 ^ t := t5.mp c
        have e1 : k + 1 = 2 ^ (t + 1) * 0 + 2 ^ t := by rw [e]; simp
        rw [e1]
        refine c_ntz (by omega) (by omega) ?_
        rw [← e1]
        simp only [ks_nop, ks_aload_0, ks_iload_1, ks_iload_2, ks_iload_3, ks_iload, ks_istore_1, ks_istore_2, ks_istore_3, ks_istore, ks_iconst, ks_bipush, ks_iinc, ks_iand, ks_ior, ks_ixor, ks_ineg, ks_lor, ks_if_ne, ks_icmp_ge, ks_goto, ks_get0, ks_get3, ks_get1, ks_get2, ks_iald, ks_sld, ks_lald, ks_iast, ks_last, ks_inv0, ks_inv1, ks_inv2, ks_inv4, ks_inv3, ks_inv5, ks_inv6, ks_inv7, ks_vret, kldi_0, kldl_0, klda_0, kldz_0, kst1_0, kst2_0, kldi_1, kldl_1, klda_1, kldz_1, kst1_1n, kst2_1n, kst1_1i, kst2_1i, kst1_1r, kst2_1r, kst1_1z, kst2_1z, kst1_1l, kst2_1l, kldi_2, kldl_2, klda_2, kldz_2, kst1_2n, kst2_2n, kst1_2i, kst2_2i, kst1_2r, kst2_2r, kst1_2z, kst2_2z, kst1_2l, kst2_2l, kldi_3, kldl_3, klda_3, kldz_3, kst1_3n, kst2_3n, kst1_3i, kst2_3i, kst1_3r, kst2_3r, kst1_3z, kst2_3z, kst1_3l, kst2_3l, kldi_4, kldl_4, klda_4, kldz_4, kst1_4n, kst2_4n, kst1_4i, kst2_4i, kst1_4r, kst2_4r, kst1_4z, kst2_4z, kst1_4l, kst2_4l, kpr_r, kcat_n, kcat_i, kcat_r, kcat_z, kcat_l, kargs_0, kargs_s, kret_v, kret_n, kret_x, zl_64, jX1_prepareNameSets_0, bX1_prepareNameSets_0, jX1_prepareNameSets_2, bX1_prepareNameSets_2, jX1_prepareNameSets_65, bX1_prepareNameSets_65, jX1_prepareNameSets_122, bX1_prepareNameSets_122, jX1_prepareNameSets_128, bX1_prepareNameSets_128, Nat.reduceAdd, Nat.reduceLeDiff, Nat.reduceEqDiff, Nat.reduceSub, Nat.zero_le, Nat.add_left_cancel_iff, true_and, and_true, if_true, if_false, reduceIte, ne_eq, not_false_eq_true, Nat.add_eq_left, Nat.left_eq_add, kI_sI, kL_sI, kR_sI, kK_sI, kI_sL, kL_sL, kR_sL, kK_sL, kI_sIA, kL_sIA, kR_sIA, kK_sIA, kI_sLA, kL_sLA, kR_sLA, kK_sLA, gK w hg, gR_0 w hg, gK_1 w hg, gR_1 w hg, gK_2 w hg, gR_2 w hg, gK_3 w hg, gR_3 w hg, gK_4 w hg, gR_4 w hg, gK_5 w hg, gR_11 w hg, gK_6 w hg, gR_12 w hg, gK_7 w hg, gR_13 w hg, gK_8 w hg, gR_14 w hg, gK_9 w hg, gR_15 w hg, gK_10 w hg, gR_16 w hg, gK_11 w hg, r2]
        try simp (disch := omega) only [a_0, a_1, a_L0, a_L1, a_lt, a_le, a_eq, a_sub, a_addn, nI_add, pk_mul, a_in, nI_clamp, a_eqn, a_eqn', a_ltn, a_ltn', a_len, a_len', a_shl1, z_shr, fa_and, fa_or, a_tb, a_tb0, a_b0, a_b1, a_bi, a_lc0, a_lcle, a_lcge, a_lclt, a_lcgt, Nat.reduceAdd, Nat.reduceSub, Nat.reduceMul, Nat.reduceLT, Nat.reduceLeDiff, Nat.reduceEqDiff, true_and, and_true, if_true, if_false, reduceIte, ne_eq, not_false_eq_true, not_true_eq_false, true_implies, false_implies, Nat.not_lt, Nat.not_le, Nat.le_refl, Nat.lt_irrefl, Nat.testBit_shiftRight, Nat.add_zero, Bool.not_eq_false, Bool.not_eq_true, Decidable.not_not]
        refine c_goUp (by omega) w' hg G' hB (by omega) ?_
        simp only [ks_nop, ks_aload_0, ks_iload_1, ks_iload_2, ks_iload_3, ks_iload, ks_istore_1, ks_istore_2, ks_istore_3, ks_istore, ks_iconst, ks_bipush, ks_iinc, ks_iand, ks_ior, ks_ixor, ks_ineg, ks_lor, ks_if_ne, ks_icmp_ge, ks_goto, ks_get0, ks_get3, ks_get1, ks_get2, ks_iald, ks_sld, ks_lald, ks_iast, ks_last, ks_inv0, ks_inv1, ks_inv2, ks_inv4, ks_inv3, ks_inv5, ks_inv6, ks_inv7, ks_vret, kldi_0, kldl_0, klda_0, kldz_0, kst1_0, kst2_0, kldi_1, kldl_1, klda_1, kldz_1, kst1_1n, kst2_1n, kst1_1i, kst2_1i, kst1_1r, kst2_1r, kst1_1z, kst2_1z, kst1_1l, kst2_1l, kldi_2, kldl_2, klda_2, kldz_2, kst1_2n, kst2_2n, kst1_2i, kst2_2i, kst1_2r, kst2_2r, kst1_2z, kst2_2z, kst1_2l, kst2_2l, kldi_3, kldl_3, klda_3, kldz_3, kst1_3n, kst2_3n, kst1_3i, kst2_3i, kst1_3r, kst2_3r, kst1_3z, kst2_3z, kst1_3l, kst2_3l, kldi_4, kldl_4, klda_4, kldz_4, kst1_4n, kst2_4n, kst1_4i, kst2_4i, kst1_4r, kst2_4r, kst1_4z, kst2_4z, kst1_4l, kst2_4l, kpr_r, kcat_n, kcat_i, kcat_r, kcat_z, kcat_l, kargs_0, kargs_s, kret_v, kret_n, kret_x, zl_64, jX1_prepareNameSets_0, bX1_prepareNameSets_0, jX1_prepareNameSets_2, bX1_prepareNameSets_2, jX1_prepareNameSets_65, bX1_prepareNameSets_65, jX1_prepareNameSets_122, bX1_prepareNameSets_122, jX1_prepareNameSets_128, bX1_prepareNameSets_128, Nat.reduceAdd, Nat.reduceLeDiff, Nat.reduceEqDiff, Nat.reduceSub, Nat.zero_le, Nat.add_left_cancel_iff, true_and, and_true, if_true, if_false, reduceIte, ne_eq, not_false_eq_true, Nat.add_eq_left, Nat.left_eq_add, kI_sI, kL_sI, kR_sI, kK_sI, kI_sL, kL_sL, kR_sL, kK_sL, kI_sIA, kL_sIA, kR_sIA, kK_sIA, kI_sLA, kL_sLA, kR_sLA, kK_sLA, gK w hg, gR_0 w hg, gK_1 w hg, gR_1 w hg, gK_2 w hg, gR_2 w hg, gK_3 w hg, gR_3 w hg, gK_4 w hg, gR_4 w hg, gK_5 w hg, gR_11 w hg, gK_6 w hg, gR_12 w hg, gK_7 w hg, gR_13 w hg, gK_8 w hg, gR_14 w hg, gK_9 w hg, gR_15 w hg, gK_10 w hg, gR_16 w hg, gK_11 w hg, r2]
        try simp (disch := omega) only [a_0, a_1, a_L0, a_L1, a_lt, a_le, a_eq, a_sub, a_addn, nI_add, pk_mul, a_in, nI_clamp, a_eqn, a_eqn', a_ltn, a_ltn', a_len, a_len', a_shl1, z_shr, fa_and, fa_or, a_tb, a_tb0, a_b0, a_b1, a_bi, a_lc0, a_lcle, a_lcge, a_lclt, a_lcgt, Nat.reduceAdd, Nat.reduceSub, Nat.reduceMul, Nat.reduceLT, Nat.reduceLeDiff, Nat.reduceEqDiff, true_and, and_true, if_true, if_false, reduceIte, ne_eq, not_false_eq_true, not_true_eq_false, true_implies, false_implies, Nat.not_lt, Nat.not_le, Nat.le_refl, Nat.lt_irrefl, Nat.testBit_shiftRight, Nat.add_zero, Bool.not_eq_false, Bool.not_eq_true, Decidable.not_not, r2]
        rw [← csy_name t]
        have w2 := kW_same (h' := sI h' (g + 6) (k + 1) (nI (gup B nn (k + 1)))) rfl w'
        have f2 : Fr [g + 6] [g + 8, g + 10] h (sI h' (g + 6) (k + 1) (nI (gup B nn (k + 1)))) := Fr_sI f (by simp)
        refine c_startsWith w2 hg (GA_fr f2 G (by simp) (by simp) (by simp) (by simp)) hB (by omega) ?_
        simp only [ks_nop, ks_aload_0, ks_iload_1, ks_iload_2, ks_iload_3, ks_iload, ks_istore_1, ks_istore_2, ks_istore_3, ks_istore, ks_iconst, ks_bipush, ks_iinc, ks_iand, ks_ior, ks_ixor, ks_ineg, ks_lor, ks_if_ne, ks_icmp_ge, ks_goto, ks_get0, ks_get3, ks_get1, ks_get2, ks_iald, ks_sld, ks_lald, ks_iast, ks_last, ks_inv0, ks_inv1, ks_inv2, ks_inv4, ks_inv3, ks_inv5, ks_inv6, ks_inv7, ks_vret, kldi_0, kldl_0, klda_0, kldz_0, kst1_0, kst2_0, kldi_1, kldl_1, klda_1, kldz_1, kst1_1n, kst2_1n, kst1_1i, kst2_1i, kst1_1r, kst2_1r, kst1_1z, kst2_1z, kst1_1l, kst2_1l, kldi_2, kldl_2, klda_2, kldz_2, kst1_2n, kst2_2n, kst1_2i, kst2_2i, kst1_2r, kst2_2r, kst1_2z, kst2_2z, kst1_2l, kst2_2l, kldi_3, kldl_3, klda_3, kldz_3, kst1_3n, kst2_3n, kst1_3i, kst2_3i, kst1_3r, kst2_3r, kst1_3z, kst2_3z, kst1_3l, kst2_3l, kldi_4, kldl_4, klda_4, kldz_4, kst1_4n, kst2_4n, kst1_4i, kst2_4i, kst1_4r, kst2_4r, kst1_4z, kst2_4z, kst1_4l, kst2_4l, kpr_r, kcat_n, kcat_i, kcat_r, kcat_z, kcat_l, kargs_0, kargs_s, kret_v, kret_n, kret_x, zl_64, jX1_prepareNameSets_0, bX1_prepareNameSets_0, jX1_prepareNameSets_2, bX1_prepareNameSets_2, jX1_prepareNameSets_65, bX1_prepareNameSets_65, jX1_prepareNameSets_122, bX1_prepareNameSets_122, jX1_prepareNameSets_128, bX1_prepareNameSets_128, Nat.reduceAdd, Nat.reduceLeDiff, Nat.reduceEqDiff, Nat.reduceSub, Nat.zero_le, Nat.add_left_cancel_iff, true_and, and_true, if_true, if_false, reduceIte, ne_eq, not_false_eq_true, Nat.add_eq_left, Nat.left_eq_add, kI_sI, kL_sI, kR_sI, kK_sI, kI_sL, kL_sL, kR_sL, kK_sL, kI_sIA, kL_sIA, kR_sIA, kK_sIA, kI_sLA, kL_sLA, kR_sLA, kK_sLA, gK w hg, gR_0 w hg, gK_1 w hg, gR_1 w hg, gK_2 w hg, gR_2 w hg, gK_3 w hg, gR_3 w hg, gK_4 w hg, gR_4 w hg, gK_5 w hg, gR_11 w hg, gK_6 w hg, gR_12 w hg, gK_7 w hg, gR_13 w hg, gK_8 w hg, gR_14 w hg, gK_9 w hg, gR_15 w hg, gK_10 w hg, gR_16 w hg, gK_11 w hg, r2]
        try simp (disch := omega) only [a_0, a_1, a_L0, a_L1, a_lt, a_le, a_eq, a_sub, a_addn, nI_add, pk_mul, a_in, nI_clamp, a_eqn, a_eqn', a_ltn, a_ltn', a_len, a_len', a_shl1, z_shr, fa_and, fa_or, a_tb, a_tb0, a_b0, a_b1, a_bi, a_lc0, a_lcle, a_lcge, a_lclt, a_lcgt, Nat.reduceAdd, Nat.reduceSub, Nat.reduceMul, Nat.reduceLT, Nat.reduceLeDiff, Nat.reduceEqDiff, true_and, and_true, if_true, if_false, reduceIte, ne_eq, not_false_eq_true, not_true_eq_false, true_implies, false_implies, Nat.not_lt, Nat.not_le, Nat.le_refl, Nat.lt_irrefl, Nat.testBit_shiftRight, Nat.add_zero, Bool.not_eq_false, Bool.not_eq_true, Decidable.not_not, r2]
        have w3 := kW_same (h' := sL (sI h' (g + 6) (k + 1) (nI (gup B nn (k + 1)))) (g + 8) (k + 1) (lN (sw B (4 + t)))) rfl w'
        have f3 : Fr [g + 6] [g + 8, g + 10] h (sL (sI h' (g + 6) (k + 1) (nI (gup B nn (k + 1)))) (g + 8) (k + 1) (lN (sw B (4 + t)))) := Fr_sL f2 (by simp)
        refine c_waitsFor w3 hg (GA_fr f3 G (by simp) (by simp) (by simp) (by simp)) hB (by omega) ?_
        simp only [ks_nop, ks_aload_0, ks_iload_1, ks_iload_2, ks_iload_3, ks_iload, ks_istore_1, ks_istore_2, ks_istore_3, ks_istore, ks_iconst, ks_bipush, ks_iinc, ks_iand, ks_ior, ks_ixor, ks_ineg, ks_lor, ks_if_ne, ks_icmp_ge, ks_goto, ks_get0, ks_get3, ks_get1, ks_get2, ks_iald, ks_sld, ks_lald, ks_iast, ks_last, ks_inv0, ks_inv1, ks_inv2, ks_inv4, ks_inv3, ks_inv5, ks_inv6, ks_inv7, ks_vret, kldi_0, kldl_0, klda_0, kldz_0, kst1_0, kst2_0, kldi_1, kldl_1, klda_1, kldz_1, kst1_1n, kst2_1n, kst1_1i, kst2_1i, kst1_1r, kst2_1r, kst1_1z, kst2_1z, kst1_1l, kst2_1l, kldi_2, kldl_2, klda_2, kldz_2, kst1_2n, kst2_2n, kst1_2i, kst2_2i, kst1_2r, kst2_2r, kst1_2z, kst2_2z, kst1_2l, kst2_2l, kldi_3, kldl_3, klda_3, kldz_3, kst1_3n, kst2_3n, kst1_3i, kst2_3i, kst1_3r, kst2_3r, kst1_3z, kst2_3z, kst1_3l, kst2_3l, kldi_4, kldl_4, klda_4, kldz_4, kst1_4n, kst2_4n, kst1_4i, kst2_4i, kst1_4r, kst2_4r, kst1_4z, kst2_4z, kst1_4l, kst2_4l, kpr_r, kcat_n, kcat_i, kcat_r, kcat_z, kcat_l, kargs_0, kargs_s, kret_v, kret_n, kret_x, zl_64, jX1_prepareNameSets_0, bX1_prepareNameSets_0, jX1_prepareNameSets_2, bX1_prepareNameSets_2, jX1_prepareNameSets_65, bX1_prepareNameSets_65, jX1_prepareNameSets_122, bX1_prepareNameSets_122, jX1_prepareNameSets_128, bX1_prepareNameSets_128, Nat.reduceAdd, Nat.reduceLeDiff, Nat.reduceEqDiff, Nat.reduceSub, Nat.zero_le, Nat.add_left_cancel_iff, true_and, and_true, if_true, if_false, reduceIte, ne_eq, not_false_eq_true, Nat.add_eq_left, Nat.left_eq_add, kI_sI, kL_sI, kR_sI, kK_sI, kI_sL, kL_sL, kR_sL, kK_sL, kI_sIA, kL_sIA, kR_sIA, kK_sIA, kI_sLA, kL_sLA, kR_sLA, kK_sLA, gK w hg, gR_0 w hg, gK_1 w hg, gR_1 w hg, gK_2 w hg, gR_2 w hg, gK_3 w hg, gR_3 w hg, gK_4 w hg, gR_4 w hg, gK_5 w hg, gR_11 w hg, gK_6 w hg, gR_12 w hg, gK_7 w hg, gR_13 w hg, gK_8 w hg, gR_14 w hg, gK_9 w hg, gR_15 w hg, gK_10 w hg, gR_16 w hg, gK_11 w hg, r2]
        try simp (disch := omega) only [a_0, a_1, a_L0, a_L1, a_lt, a_le, a_eq, a_sub, a_addn, nI_add, pk_mul, a_in, nI_clamp, a_eqn, a_eqn', a_ltn, a_ltn', a_len, a_len', a_shl1, z_shr, fa_and, fa_or, a_tb, a_tb0, a_b0, a_b1, a_bi, a_lc0, a_lcle, a_lcge, a_lclt, a_lcgt, Nat.reduceAdd, Nat.reduceSub, Nat.reduceMul, Nat.reduceLT, Nat.reduceLeDiff, Nat.reduceEqDiff, true_and, and_true, if_true, if_false, reduceIte, ne_eq, not_false_eq_true, not_true_eq_false, true_implies, false_implies, Nat.not_lt, Nat.not_le, Nat.le_refl, Nat.lt_irrefl, Nat.testBit_shiftRight, Nat.add_zero, Bool.not_eq_false, Bool.not_eq_true, Decidable.not_not, r2]
        refine next _ (Fr_sL f3 (by simp)) ?_ _ _ _
        simp only [ks_nop, ks_aload_0, ks_iload_1, ks_iload_2, ks_iload_3, ks_iload, ks_istore_1, ks_istore_2, ks_istore_3, ks_istore, ks_iconst, ks_bipush, ks_iinc, ks_iand, ks_ior, ks_ixor, ks_ineg, ks_lor, ks_if_ne, ks_icmp_ge, ks_goto, ks_get0, ks_get3, ks_get1, ks_get2, ks_iald, ks_sld, ks_lald, ks_iast, ks_last, ks_inv0, ks_inv1, ks_inv2, ks_inv4, ks_inv3, ks_inv5, ks_inv6, ks_inv7, ks_vret, kldi_0, kldl_0, klda_0, kldz_0, kst1_0, kst2_0, kldi_1, kldl_1, klda_1, kldz_1, kst1_1n, kst2_1n, kst1_1i, kst2_1i, kst1_1r, kst2_1r, kst1_1z, kst2_1z, kst1_1l, kst2_1l, kldi_2, kldl_2, klda_2, kldz_2, kst1_2n, kst2_2n, kst1_2i, kst2_2i, kst1_2r, kst2_2r, kst1_2z, kst2_2z, kst1_2l, kst2_2l, kldi_3, kldl_3, klda_3, kldz_3, kst1_3n, kst2_3n, kst1_3i, kst2_3i, kst1_3r, kst2_3r, kst1_3z, kst2_3z, kst1_3l, kst2_3l, kldi_4, kldl_4, klda_4, kldz_4, kst1_4n, kst2_4n, kst1_4i, kst2_4i, kst1_4r, kst2_4r, kst1_4z, kst2_4z, kst1_4l, kst2_4l, kpr_r, kcat_n, kcat_i, kcat_r, kcat_z, kcat_l, kargs_0, kargs_s, kret_v, kret_n, kret_x, zl_64, jX1_prepareNameSets_0, bX1_prepareNameSets_0, jX1_prepareNameSets_2, bX1_prepareNameSets_2, jX1_prepareNameSets_65, bX1_prepareNameSets_65, jX1_prepareNameSets_122, bX1_prepareNameSets_122, jX1_prepareNameSets_128, bX1_prepareNameSets_128, Nat.reduceAdd, Nat.reduceLeDiff, Nat.reduceEqDiff, Nat.reduceSub, Nat.zero_le, Nat.add_left_cancel_iff, true_and, and_true, if_true, if_false, reduceIte, ne_eq, not_false_eq_true, Nat.add_eq_left, Nat.left_eq_add, kI_sI, kL_sI, kR_sI, kK_sI, kI_sL, kL_sL, kR_sL, kK_sL, kI_sIA, kL_sIA, kR_sIA, kK_sIA, kI_sLA, kL_sLA, kR_sLA, kK_sLA]
        refine NS_st N ?_ ?_ ?_
        · rw [e, ofs_1 _ ht]; rfl
        · rw [e, ofs_1 _ ht]; rfl
        · rw [e, ofs_1 _ ht]; rfl
  exact loop 0 (by omega) h (Fr_rf _ _ _) Z _ _ _
end GR

/-! what the charts ask a grammar -/
def NS1 (fu : Nat → Int32) (fs fw : Nat → Int64) (B : GB) (nn : Nat) : Prop := ∀ m, m < 64 → (B = [] → m = 0) → fu m = nI (ofs (upN B nn) m) ∧ fs m = lN (ofs (stN B) m) ∧ fw m = lN (ofs (waN B) m)
/-- a grammar that can be asked -/
def GQ (h : KH) (g : Nat) (B : GB) (nn : Nat) : Prop := GA (kI h g) (kI h (g + 2)) (kI h (g + 3)) (kI h (g + 4)) B nn ∧ bok B nn ∧ kI h g 7 = nI (sgB B) ∧ PS (kI h g) (kI h (g + 5)) (kI h (g + 7)) (kL h (g + 9)) (kL h (g + 11)) B nn (sgB B) 4 ∧ kL h g 10 = lN (wh B) ∧ NS1 (kI h (g + 6)) (kL h (g + 8)) (kL h (g + 10)) B nn
theorem GP_GQ {h : KH} {g : Nat} {B : GB} {nn : Nat} (P : GP h g B nn) : GQ h g B nn := ⟨P.1, P.2.1, P.2.2.1, P.2.2.2.1, P.2.2.2.2.1, fun m hm _ => P.2.2.2.2.2 m hm⟩
theorem GQ_fr {h h' : KH} {g : Nat} {B : GB} {nn : Nat} {S T : List Nat} (f : Fr S T h h') (hS : ∀ x ∈ gS g, x ∉ S) (hT : ∀ x ∈ gT g, x ∉ T) (P : GQ h g B nn) : GQ h' g B nn := by
  unfold GQ at P ⊢
  rw [f.2.1 g (hS _ (by simp [gS])), f.2.1 (g + 2) (hS _ (by simp [gS])), f.2.1 (g + 3) (hS _ (by simp [gS])), f.2.1 (g + 4) (hS _ (by simp [gS])), f.2.1 (g + 5) (hS _ (by simp [gS])), f.2.1 (g + 6) (hS _ (by simp [gS])), f.2.1 (g + 7) (hS _ (by simp [gS])), f.2.2 g (hT _ (by simp [gT])), f.2.2 (g + 8) (hT _ (by simp [gT])), f.2.2 (g + 9) (hT _ (by simp [gT])), f.2.2 (g + 10) (hT _ (by simp [gT])), f.2.2 (g + 11) (hT _ (by simp [gT]))]
  exact P
theorem L_nib {m k : Nat} (hm : m < 2 ^ 64) (hk : k ≤ 60) : klsr (lN m) (nI k) &&& lN 15 = lN (m / 2 ^ k % 16) := by
  apply Int64.toBitVec_inj.1
  apply BitVec.eq_of_getLsbD_eq
  intro i hi
  unfold klsr
  rw [Int64.toBitVec_and, Int64.toBitVec_shiftRight, z_c64 k (by omega)]
  show (((BitVec.ofNat 64 m).sshiftRight' (BitVec.ofNat 64 k)) &&& BitVec.ofNat 64 15).getLsbD i = (BitVec.ofNat 64 (m / 2 ^ k % 16)).getLsbD i
  have e15 : ∀ i, i < 64 → (BitVec.ofNat 64 15).getLsbD i = decide (i < 4) := by decide
  have ek : (BitVec.ofNat 64 k).toNat = k := by simp; omega
  rw [BitVec.getLsbD_and, e15 i hi, BitVec.sshiftRight_eq', ek, BitVec.getLsbD_sshiftRight, BitVec.getLsbD_ofNat, BitVec.getLsbD_ofNat, show (16 : Nat) = 2 ^ 4 from rfl, Nat.testBit_mod_two_pow, ← Nat.shiftRight_eq_div_pow, Nat.testBit_shiftRight]
  by_cases h4 : i < 4
  · have : k + i < 64 := by omega
    have h64 : ¬ 64 ≤ i := by omega
    simp [h4, hi, this, h64, BitVec.getLsbD_ofNat]
  · simp [h4]
theorem a_lc64 {a : Nat} (ha : a < 2 ^ 64) : (lg_cmp (lN a) (lN 0) = nI 0) = (a = 0) := by
  have key : lN a = lN 0 ↔ a = 0 := by
    constructor
    · intro h
      have h2 : (lN a).toBitVec.toNat = (lN 0).toBitVec.toNat := by rw [h]
      have h3 : (lN a).toBitVec.toNat = a := by
        show (BitVec.ofNat 64 a).toNat = a
        simp; omega
      have h4 : (lN 0).toBitVec.toNat = 0 := by decide
      omega
    · intro h; rw [h]
  apply propext
  unfold lg_cmp
  show (if lN 0 < lN a then (1 : Int32) else if lN a = lN 0 then 0 else -1) = nI 0 ↔ _
  rw [← key]
  by_cases h1 : lN 0 < lN a
  · rw [if_pos h1]
    refine ⟨fun h => absurd h (by decide), fun h => ?_⟩
    rw [h] at h1; exact absurd h1 (Int64.lt_irrefl)
  · rw [if_neg h1]
    by_cases h2 : lN a = lN 0
    · rw [if_pos h2]; exact ⟨fun _ => h2, fun _ => rfl⟩
    · rw [if_neg h2]
      exact ⟨fun h => absurd h (by decide), fun h => absurd h h2⟩
section GR
variable {r : Nat} {h : KH} {Q : KO → KH → Prop} {g : Nat} {B : GB} {nn : Nat}
theorem NB_emp (hB : bok B nn) (u : List Nat) : B = [] → NB B u = 0 := by
  intro e
  refine (nb_zero (NB_lt B u)).mpr (fun i _ => ?_)
  rw [Bool.eq_false_iff]
  intro q
  have := (NB_bit hB u i).mp q
  refine this (fun _ _ => False) ?_
  intro n ss hb
  rw [e] at hb; cases hb
theorem c_namesBySign {s : Nat} (w : kW h) (hg : isG g) (P : GQ h g B nn) (hs : s < 4) (H : Q (.inl (some (.int (nI (NB B [s]))))) h) : kCalls r yX1_namesBySign [.ref g, .int (nI s)] h Q := by
  have P1 := (P.2.2.2.1.2.2 s hs).1
  rw [NB_sign P.2.1 hs] at P1
  refine sX1_namesBySign _ _ ?_
  refine eX1_namesBySign_0 ?_
  simp only [ks_nop, ks_aload_0, ks_iload_1, ks_get0, ks_get3, ks_get1, ks_get2, ks_iald, ks_sld, ks_iret0, kldi_0, kldl_0, klda_0, kldz_0, kst1_0, kst2_0, kldi_1, kldl_1, klda_1, kldz_1, kst1_1n, kst2_1n, kst1_1i, kst2_1i, kst1_1r, kst2_1r, kst1_1z, kst2_1z, kst1_1l, kst2_1l, kcat_n, kcat_i, kcat_r, kcat_z, kcat_l, jX1_namesBySign_0, bX1_namesBySign_0, Nat.reduceAdd, Nat.reduceLeDiff, Nat.reduceEqDiff, Nat.reduceSub, Nat.zero_le, Nat.add_left_cancel_iff, true_and, and_true, if_true, if_false, reduceIte, ne_eq, not_false_eq_true, Nat.add_eq_left, Nat.left_eq_add, kI_sI, kL_sI, kR_sI, kK_sI, kI_sL, kL_sL, kR_sL, kK_sL, kI_sIA, kL_sIA, kR_sIA, kK_sIA, kI_sLA, kL_sLA, kR_sLA, kK_sLA, gK w hg, gR_0 w hg, gK_1 w hg, gR_1 w hg, gK_2 w hg, gR_2 w hg, gK_3 w hg, gR_3 w hg, gK_4 w hg, gR_4 w hg, gK_5 w hg, gR_11 w hg, gK_6 w hg, gR_12 w hg, gK_7 w hg, gR_13 w hg, gK_8 w hg, gR_14 w hg, gK_9 w hg, gR_15 w hg, gK_10 w hg, gR_16 w hg, gK_11 w hg]
  try simp (disch := omega) only [a_0, a_1, a_L0, a_L1, a_lt, a_le, a_eq, a_sub, a_addn, nI_add, pk_mul, a_in, nI_clamp, a_eqn, a_eqn', a_eqn2, a_n12, eq_self, a_ltn, a_ltn', a_len, a_len', a_shl1, z_shr, fa_and, fa_or, a_tb, a_tb0, a_b0, a_b1, a_bi, a_lc0, a_lcle, a_lcge, a_lclt, a_lcgt, upd_at, upd_ne, updL_at, updL_ne, Nat.reduceAdd, Nat.reduceSub, Nat.reduceMul, Nat.reduceLT, Nat.reduceLeDiff, Nat.reduceEqDiff, true_and, and_true, if_true, if_false, reduceIte, ne_eq, not_false_eq_true, not_true_eq_false, true_implies, false_implies, Nat.not_lt, Nat.not_le, Nat.le_refl, Nat.add_sub_cancel, Nat.lt_irrefl, Nat.not_lt_zero, Nat.zero_le, Nat.testBit_shiftRight, Nat.add_zero, reduceCtorEq, true_or, or_true, or_false, false_or, Bool.true_eq_false, Bool.false_eq_true, Bool.not_eq_false, Bool.not_eq_true, Decidable.not_not, P1]
  exact H
theorem c_itemsBySign {s : Nat} (w : kW h) (hg : isG g) (P : GQ h g B nn) (hs : s < 4) (H : Q (.inl (some (.long (lN (IT B [s]))))) h) : kCalls r yX1_itemsBySign [.ref g, .int (nI s)] h Q := by
  have P1 := P.2.2.2.1.2.2 s hs
  rw [NB_sign P.2.1 hs] at P1
  have hb := NB_lt B [s]
  have P2 := P.2.2.2.2.2 (NB B [s]) hb (NB_emp P.2.1 _)
  refine sX1_itemsBySign _ _ ?_
  refine eX1_itemsBySign_0 ?_
  simp only [ks_nop, ks_aload_0, ks_iload_1, ks_lor, ks_get0, ks_get3, ks_get1, ks_get2, ks_iald, ks_sld, ks_lald, ks_lret, kldi_0, kldl_0, klda_0, kldz_0, kst1_0, kst2_0, kldi_1, kldl_1, klda_1, kldz_1, kst1_1n, kst2_1n, kst1_1i, kst2_1i, kst1_1r, kst2_1r, kst1_1z, kst2_1z, kst1_1l, kst2_1l, kcat_n, kcat_i, kcat_r, kcat_z, kcat_l, jX1_itemsBySign_0, bX1_itemsBySign_0, Nat.reduceAdd, Nat.reduceLeDiff, Nat.reduceEqDiff, Nat.reduceSub, Nat.zero_le, Nat.add_left_cancel_iff, true_and, and_true, if_true, if_false, reduceIte, ne_eq, not_false_eq_true, Nat.add_eq_left, Nat.left_eq_add, kI_sI, kL_sI, kR_sI, kK_sI, kI_sL, kL_sL, kR_sL, kK_sL, kI_sIA, kL_sIA, kR_sIA, kK_sIA, kI_sLA, kL_sLA, kR_sLA, kK_sLA, gK w hg, gR_0 w hg, gK_1 w hg, gR_1 w hg, gK_2 w hg, gR_2 w hg, gK_3 w hg, gR_3 w hg, gK_4 w hg, gR_4 w hg, gK_5 w hg, gR_11 w hg, gK_6 w hg, gR_12 w hg, gK_7 w hg, gR_13 w hg, gK_8 w hg, gR_14 w hg, gK_9 w hg, gR_15 w hg, gK_10 w hg, gR_16 w hg, gK_11 w hg]
  try simp (disch := omega) only [a_0, a_1, a_L0, a_L1, a_lt, a_le, a_eq, a_sub, a_addn, nI_add, pk_mul, a_in, nI_clamp, a_eqn, a_eqn', a_eqn2, a_n12, eq_self, a_ltn, a_ltn', a_len, a_len', a_shl1, z_shr, fa_and, fa_or, a_tb, a_tb0, a_b0, a_b1, a_bi, a_lc0, a_lcle, a_lcge, a_lclt, a_lcgt, upd_at, upd_ne, updL_at, updL_ne, Nat.reduceAdd, Nat.reduceSub, Nat.reduceMul, Nat.reduceLT, Nat.reduceLeDiff, Nat.reduceEqDiff, true_and, and_true, if_true, if_false, reduceIte, ne_eq, not_false_eq_true, not_true_eq_false, true_implies, false_implies, Nat.not_lt, Nat.not_le, Nat.le_refl, Nat.add_sub_cancel, Nat.lt_irrefl, Nat.not_lt_zero, Nat.zero_le, Nat.testBit_shiftRight, Nat.add_zero, reduceCtorEq, true_or, or_true, or_false, false_or, Bool.true_eq_false, Bool.false_eq_true, Bool.not_eq_false, Bool.not_eq_true, Decidable.not_not, P1.1, P1.2.1, P2.2.1]
  rw [L_or (sw_lt P.2.1 _) (ofs_lt (f := stN B) (fun n _ => sw_lt P.2.1 _) _), IT_sign P.2.1 hs]
  exact H
theorem c_waitingForSign {s : Nat} (w : kW h) (hg : isG g) (P : GQ h g B nn) (hs : s < 4) (H : Q (.inl (some (.long (lN (WT B [s]))))) h) : kCalls r yX1_waitingForSign [.ref g, .int (nI s)] h Q := by
  have P1 := P.2.2.2.1.2.2 s hs
  rw [NB_sign P.2.1 hs] at P1
  have hb := NB_lt B [s]
  have P2 := P.2.2.2.2.2 (NB B [s]) hb (NB_emp P.2.1 _)
  refine sX1_waitingForSign _ _ ?_
  refine eX1_waitingForSign_0 ?_
  simp only [ks_nop, ks_aload_0, ks_iload_1, ks_lor, ks_get0, ks_get3, ks_get1, ks_get2, ks_iald, ks_sld, ks_lald, ks_lret, kldi_0, kldl_0, klda_0, kldz_0, kst1_0, kst2_0, kldi_1, kldl_1, klda_1, kldz_1, kst1_1n, kst2_1n, kst1_1i, kst2_1i, kst1_1r, kst2_1r, kst1_1z, kst2_1z, kst1_1l, kst2_1l, kcat_n, kcat_i, kcat_r, kcat_z, kcat_l, jX1_waitingForSign_0, bX1_waitingForSign_0, Nat.reduceAdd, Nat.reduceLeDiff, Nat.reduceEqDiff, Nat.reduceSub, Nat.zero_le, Nat.add_left_cancel_iff, true_and, and_true, if_true, if_false, reduceIte, ne_eq, not_false_eq_true, Nat.add_eq_left, Nat.left_eq_add, kI_sI, kL_sI, kR_sI, kK_sI, kI_sL, kL_sL, kR_sL, kK_sL, kI_sIA, kL_sIA, kR_sIA, kK_sIA, kI_sLA, kL_sLA, kR_sLA, kK_sLA, gK w hg, gR_0 w hg, gK_1 w hg, gR_1 w hg, gK_2 w hg, gR_2 w hg, gK_3 w hg, gR_3 w hg, gK_4 w hg, gR_4 w hg, gK_5 w hg, gR_11 w hg, gK_6 w hg, gR_12 w hg, gK_7 w hg, gR_13 w hg, gK_8 w hg, gR_14 w hg, gK_9 w hg, gR_15 w hg, gK_10 w hg, gR_16 w hg, gK_11 w hg]
  try simp (disch := omega) only [a_0, a_1, a_L0, a_L1, a_lt, a_le, a_eq, a_sub, a_addn, nI_add, pk_mul, a_in, nI_clamp, a_eqn, a_eqn', a_eqn2, a_n12, eq_self, a_ltn, a_ltn', a_len, a_len', a_shl1, z_shr, fa_and, fa_or, a_tb, a_tb0, a_b0, a_b1, a_bi, a_lc0, a_lcle, a_lcge, a_lclt, a_lcgt, upd_at, upd_ne, updL_at, updL_ne, Nat.reduceAdd, Nat.reduceSub, Nat.reduceMul, Nat.reduceLT, Nat.reduceLeDiff, Nat.reduceEqDiff, true_and, and_true, if_true, if_false, reduceIte, ne_eq, not_false_eq_true, not_true_eq_false, true_implies, false_implies, Nat.not_lt, Nat.not_le, Nat.le_refl, Nat.add_sub_cancel, Nat.lt_irrefl, Nat.not_lt_zero, Nat.zero_le, Nat.testBit_shiftRight, Nat.add_zero, reduceCtorEq, true_or, or_true, or_false, false_or, Bool.true_eq_false, Bool.false_eq_true, Bool.not_eq_false, Bool.not_eq_true, Decidable.not_not, P1.1, P1.2.2, P2.2.2]
  rw [L_or (wf_lt P.2.1 _) (ofs_lt (f := waN B) (fun n _ => wf_lt P.2.1 _) _), WT_sign P.2.1 hs]
  exact H
theorem c_itemsByNames {u : List Nat} (w : kW h) (hg : isG g) (P : GQ h g B nn) (H : Q (.inl (some (.long (lN (ofs (stN B) (NB B u)))))) h) : kCalls r yX1_itemsByNames [.ref g, .int (nI (NB B u))] h Q := by
  have hb := NB_lt B u
  have P2 := P.2.2.2.2.2 (NB B u) hb (NB_emp P.2.1 _)
  refine sX1_itemsByNames _ _ ?_
  refine eX1_itemsByNames_0 ?_
  simp only [ks_nop, ks_aload_0, ks_iload_1, ks_get0, ks_get3, ks_get1, ks_get2, ks_lald, ks_lret, kldi_0, kldl_0, klda_0, kldz_0, kst1_0, kst2_0, kldi_1, kldl_1, klda_1, kldz_1, kst1_1n, kst2_1n, kst1_1i, kst2_1i, kst1_1r, kst2_1r, kst1_1z, kst2_1z, kst1_1l, kst2_1l, kcat_n, kcat_i, kcat_r, kcat_z, kcat_l, jX1_itemsByNames_0, bX1_itemsByNames_0, Nat.reduceAdd, Nat.reduceLeDiff, Nat.reduceEqDiff, Nat.reduceSub, Nat.zero_le, Nat.add_left_cancel_iff, true_and, and_true, if_true, if_false, reduceIte, ne_eq, not_false_eq_true, Nat.add_eq_left, Nat.left_eq_add, kI_sI, kL_sI, kR_sI, kK_sI, kI_sL, kL_sL, kR_sL, kK_sL, kI_sIA, kL_sIA, kR_sIA, kK_sIA, kI_sLA, kL_sLA, kR_sLA, kK_sLA, gK w hg, gR_0 w hg, gK_1 w hg, gR_1 w hg, gK_2 w hg, gR_2 w hg, gK_3 w hg, gR_3 w hg, gK_4 w hg, gR_4 w hg, gK_5 w hg, gR_11 w hg, gK_6 w hg, gR_12 w hg, gK_7 w hg, gR_13 w hg, gK_8 w hg, gR_14 w hg, gK_9 w hg, gR_15 w hg, gK_10 w hg, gR_16 w hg, gK_11 w hg]
  try simp (disch := omega) only [a_0, a_1, a_L0, a_L1, a_lt, a_le, a_eq, a_sub, a_addn, nI_add, pk_mul, a_in, nI_clamp, a_eqn, a_eqn', a_eqn2, a_n12, eq_self, a_ltn, a_ltn', a_len, a_len', a_shl1, z_shr, fa_and, fa_or, a_tb, a_tb0, a_b0, a_b1, a_bi, a_lc0, a_lcle, a_lcge, a_lclt, a_lcgt, upd_at, upd_ne, updL_at, updL_ne, Nat.reduceAdd, Nat.reduceSub, Nat.reduceMul, Nat.reduceLT, Nat.reduceLeDiff, Nat.reduceEqDiff, true_and, and_true, if_true, if_false, reduceIte, ne_eq, not_false_eq_true, not_true_eq_false, true_implies, false_implies, Nat.not_lt, Nat.not_le, Nat.le_refl, Nat.add_sub_cancel, Nat.lt_irrefl, Nat.not_lt_zero, Nat.zero_le, Nat.testBit_shiftRight, Nat.add_zero, reduceCtorEq, true_or, or_true, or_false, false_or, Bool.true_eq_false, Bool.false_eq_true, Bool.not_eq_false, Bool.not_eq_true, Decidable.not_not, P2.2.1]
  exact H
theorem c_waitingForNames {u : List Nat} (w : kW h) (hg : isG g) (P : GQ h g B nn) (H : Q (.inl (some (.long (lN (ofs (waN B) (NB B u)))))) h) : kCalls r yX1_waitingForNames [.ref g, .int (nI (NB B u))] h Q := by
  have hb := NB_lt B u
  have P2 := P.2.2.2.2.2 (NB B u) hb (NB_emp P.2.1 _)
  refine sX1_waitingForNames _ _ ?_
  refine eX1_waitingForNames_0 ?_
  simp only [ks_nop, ks_aload_0, ks_iload_1, ks_get0, ks_get3, ks_get1, ks_get2, ks_lald, ks_lret, kldi_0, kldl_0, klda_0, kldz_0, kst1_0, kst2_0, kldi_1, kldl_1, klda_1, kldz_1, kst1_1n, kst2_1n, kst1_1i, kst2_1i, kst1_1r, kst2_1r, kst1_1z, kst2_1z, kst1_1l, kst2_1l, kcat_n, kcat_i, kcat_r, kcat_z, kcat_l, jX1_waitingForNames_0, bX1_waitingForNames_0, Nat.reduceAdd, Nat.reduceLeDiff, Nat.reduceEqDiff, Nat.reduceSub, Nat.zero_le, Nat.add_left_cancel_iff, true_and, and_true, if_true, if_false, reduceIte, ne_eq, not_false_eq_true, Nat.add_eq_left, Nat.left_eq_add, kI_sI, kL_sI, kR_sI, kK_sI, kI_sL, kL_sL, kR_sL, kK_sL, kI_sIA, kL_sIA, kR_sIA, kK_sIA, kI_sLA, kL_sLA, kR_sLA, kK_sLA, gK w hg, gR_0 w hg, gK_1 w hg, gR_1 w hg, gK_2 w hg, gR_2 w hg, gK_3 w hg, gR_3 w hg, gK_4 w hg, gR_4 w hg, gK_5 w hg, gR_11 w hg, gK_6 w hg, gR_12 w hg, gK_7 w hg, gR_13 w hg, gK_8 w hg, gR_14 w hg, gK_9 w hg, gR_15 w hg, gK_10 w hg, gR_16 w hg, gK_11 w hg]
  try simp (disch := omega) only [a_0, a_1, a_L0, a_L1, a_lt, a_le, a_eq, a_sub, a_addn, nI_add, pk_mul, a_in, nI_clamp, a_eqn, a_eqn', a_eqn2, a_n12, eq_self, a_ltn, a_ltn', a_len, a_len', a_shl1, z_shr, fa_and, fa_or, a_tb, a_tb0, a_b0, a_b1, a_bi, a_lc0, a_lcle, a_lcge, a_lclt, a_lcgt, upd_at, upd_ne, updL_at, updL_ne, Nat.reduceAdd, Nat.reduceSub, Nat.reduceMul, Nat.reduceLT, Nat.reduceLeDiff, Nat.reduceEqDiff, true_and, and_true, if_true, if_false, reduceIte, ne_eq, not_false_eq_true, not_true_eq_false, true_implies, false_implies, Nat.not_lt, Nat.not_le, Nat.le_refl, Nat.add_sub_cancel, Nat.lt_irrefl, Nat.not_lt_zero, Nat.zero_le, Nat.testBit_shiftRight, Nat.add_zero, reduceCtorEq, true_or, or_true, or_false, false_or, Bool.true_eq_false, Bool.false_eq_true, Bool.not_eq_false, Bool.not_eq_true, Decidable.not_not, P2.2.2]
  exact H
theorem c_namesByItems {x : Nat} (w : kW h) (hg : isG g) (P : GQ h g B nn) (hx : x < 2 ^ 64) (H : Q (.inl (some (.int (nI (nbi B nn x))))) h) : kCalls r yX1_namesByItems [.ref g, .long (lN x)] h Q := by
  have hB := P.2.1
  have hl := hB.1
  have hw := wh_lt hB
  have hy : x &&& wh B < 2 ^ 64 := nand_lt hx
  refine sX1_namesByItems _ _ ?_
  refine eX1_namesByItems_0 ?_
  simp only [ks_nop, ks_aload_0, ks_lload_1, ks_lload_3, ks_iload, ks_lstore_3, ks_istore, ks_iconst, ks_lconst, ks_ldc2, ks_iinc, ks_imul, ks_ior, ks_ishl, ks_land, ks_lshr, ks_lcmp, ks_if_eq, ks_if_ne, ks_icmp_ge, ks_goto, ks_get0, ks_get3, ks_get1, ks_get2, ks_iald, ks_sld, ks_iret0, kldi_0, kldl_0, klda_0, kldz_0, kst1_0, kst2_0, kldi_1, kldl_1, klda_1, kldz_1, kst1_1n, kst2_1n, kst1_1i, kst2_1i, kst1_1r, kst2_1r, kst1_1z, kst2_1z, kst1_1l, kst2_1l, kldi_2, kldl_2, klda_2, kldz_2, kst1_2n, kst2_2n, kst1_2i, kst2_2i, kst1_2r, kst2_2r, kst1_2z, kst2_2z, kst1_2l, kst2_2l, kldi_3, kldl_3, klda_3, kldz_3, kst1_3n, kst2_3n, kst1_3i, kst2_3i, kst1_3r, kst2_3r, kst1_3z, kst2_3z, kst1_3l, kst2_3l, kldi_4, kldl_4, klda_4, kldz_4, kst1_4n, kst2_4n, kst1_4i, kst2_4i, kst1_4r, kst2_4r, kst1_4z, kst2_4z, kst1_4l, kst2_4l, kldi_5, kldl_5, klda_5, kldz_5, kst1_5n, kst2_5n, kst1_5i, kst2_5i, kst1_5r, kst2_5r, kst1_5z, kst2_5z, kst1_5l, kst2_5l, kldi_6, kldl_6, klda_6, kldz_6, kst1_6n, kst2_6n, kst1_6i, kst2_6i, kst1_6r, kst2_6r, kst1_6z, kst2_6z, kst1_6l, kst2_6l, kcat_n, kcat_i, kcat_r, kcat_z, kcat_l, zl_4, zL_15, jX1_namesByItems_0, bX1_namesByItems_0, jX1_namesByItems_15, bX1_namesByItems_15, jX1_namesByItems_21, bX1_namesByItems_21, jX1_namesByItems_59, bX1_namesByItems_59, jX1_namesByItems_65, bX1_namesByItems_65, Nat.reduceAdd, Nat.reduceLeDiff, Nat.reduceEqDiff, Nat.reduceSub, Nat.zero_le, Nat.add_left_cancel_iff, true_and, and_true, if_true, if_false, reduceIte, ne_eq, not_false_eq_true, Nat.add_eq_left, Nat.left_eq_add, kI_sI, kL_sI, kR_sI, kK_sI, kI_sL, kL_sL, kR_sL, kK_sL, kI_sIA, kL_sIA, kR_sIA, kK_sIA, kI_sLA, kL_sLA, kR_sLA, kK_sLA, gK w hg, gR_0 w hg, gK_1 w hg, gR_1 w hg, gK_2 w hg, gR_2 w hg, gK_3 w hg, gR_3 w hg, gK_4 w hg, gR_4 w hg, gK_5 w hg, gR_11 w hg, gK_6 w hg, gR_12 w hg, gK_7 w hg, gR_13 w hg, gK_8 w hg, gR_14 w hg, gK_9 w hg, gR_15 w hg, gK_10 w hg, gR_16 w hg, gK_11 w hg, P.2.2.2.2.1]
  rw [L_and hx hw]
  try simp (disch := omega) only [a_0, a_1, a_L0, a_L1, a_lt, a_le, a_eq, a_sub, a_addn, nI_add, pk_mul, a_in, nI_clamp, a_eqn, a_eqn', a_eqn2, a_n12, eq_self, a_ltn, a_ltn', a_len, a_len', a_shl1, z_shr, fa_and, fa_or, a_tb, a_tb0, a_b0, a_b1, a_bi, a_lc0, a_lcle, a_lcge, a_lclt, a_lcgt, upd_at, upd_ne, updL_at, updL_ne, Nat.reduceAdd, Nat.reduceSub, Nat.reduceMul, Nat.reduceLT, Nat.reduceLeDiff, Nat.reduceEqDiff, true_and, and_true, if_true, if_false, reduceIte, ne_eq, not_false_eq_true, not_true_eq_false, true_implies, false_implies, Nat.not_lt, Nat.not_le, Nat.le_refl, Nat.add_sub_cancel, Nat.lt_irrefl, Nat.not_lt_zero, Nat.zero_le, Nat.testBit_shiftRight, Nat.add_zero, reduceCtorEq, true_or, or_true, or_false, false_or, Bool.true_eq_false, Bool.false_eq_true, Bool.not_eq_false, Bool.not_eq_true, Decidable.not_not, a_lc64 hy]
  refine ⟨fun c => ?_, fun c => ?_⟩
  · have loop : ∀ b, b ≤ B.length → kRun r mX1_namesByItems 21 [some (.ref g), some (.long (lN x)), none, some (.long (lN (x &&& wh B))), none, some (.int (nI (orf (nbF B x) b))), some (.int (nI b))] [] h Q := by
      refine up_ind ?_ (fun b hb ih => ?_)
      · have hf : orf (nbF B x) B.length < 2 ^ 6 := nbf_lt hB x
        have P2 := P.2.2.2.2.2 (orf (nbF B x) B.length) hf (fun e => by rw [e]; rfl)
        refine eX1_namesByItems_21 ?_
        simp only [ks_nop, ks_aload_0, ks_lload_1, ks_lload_3, ks_iload, ks_lstore_3, ks_istore, ks_iconst, ks_lconst, ks_ldc2, ks_iinc, ks_imul, ks_ior, ks_ishl, ks_land, ks_lshr, ks_lcmp, ks_if_eq, ks_if_ne, ks_icmp_ge, ks_goto, ks_get0, ks_get3, ks_get1, ks_get2, ks_iald, ks_sld, ks_iret0, kldi_0, kldl_0, klda_0, kldz_0, kst1_0, kst2_0, kldi_1, kldl_1, klda_1, kldz_1, kst1_1n, kst2_1n, kst1_1i, kst2_1i, kst1_1r, kst2_1r, kst1_1z, kst2_1z, kst1_1l, kst2_1l, kldi_2, kldl_2, klda_2, kldz_2, kst1_2n, kst2_2n, kst1_2i, kst2_2i, kst1_2r, kst2_2r, kst1_2z, kst2_2z, kst1_2l, kst2_2l, kldi_3, kldl_3, klda_3, kldz_3, kst1_3n, kst2_3n, kst1_3i, kst2_3i, kst1_3r, kst2_3r, kst1_3z, kst2_3z, kst1_3l, kst2_3l, kldi_4, kldl_4, klda_4, kldz_4, kst1_4n, kst2_4n, kst1_4i, kst2_4i, kst1_4r, kst2_4r, kst1_4z, kst2_4z, kst1_4l, kst2_4l, kldi_5, kldl_5, klda_5, kldz_5, kst1_5n, kst2_5n, kst1_5i, kst2_5i, kst1_5r, kst2_5r, kst1_5z, kst2_5z, kst1_5l, kst2_5l, kldi_6, kldl_6, klda_6, kldz_6, kst1_6n, kst2_6n, kst1_6i, kst2_6i, kst1_6r, kst2_6r, kst1_6z, kst2_6z, kst1_6l, kst2_6l, kcat_n, kcat_i, kcat_r, kcat_z, kcat_l, zl_4, zL_15, jX1_namesByItems_0, bX1_namesByItems_0, jX1_namesByItems_15, bX1_namesByItems_15, jX1_namesByItems_21, bX1_namesByItems_21, jX1_namesByItems_59, bX1_namesByItems_59, jX1_namesByItems_65, bX1_namesByItems_65, Nat.reduceAdd, Nat.reduceLeDiff, Nat.reduceEqDiff, Nat.reduceSub, Nat.zero_le, Nat.add_left_cancel_iff, true_and, and_true, if_true, if_false, reduceIte, ne_eq, not_false_eq_true, Nat.add_eq_left, Nat.left_eq_add, kI_sI, kL_sI, kR_sI, kK_sI, kI_sL, kL_sL, kR_sL, kK_sL, kI_sIA, kL_sIA, kR_sIA, kK_sIA, kI_sLA, kL_sLA, kR_sLA, kK_sLA, gK w hg, gR_0 w hg, gK_1 w hg, gR_1 w hg, gK_2 w hg, gR_2 w hg, gK_3 w hg, gR_3 w hg, gK_4 w hg, gR_4 w hg, gK_5 w hg, gR_11 w hg, gK_6 w hg, gR_12 w hg, gK_7 w hg, gR_13 w hg, gK_8 w hg, gR_14 w hg, gK_9 w hg, gR_15 w hg, gK_10 w hg, gR_16 w hg, gK_11 w hg, P.1.2.1, P2.1]
        try simp (disch := omega) only [a_0, a_1, a_L0, a_L1, a_lt, a_le, a_eq, a_sub, a_addn, nI_add, pk_mul, a_in, nI_clamp, a_eqn, a_eqn', a_eqn2, a_n12, eq_self, a_ltn, a_ltn', a_len, a_len', a_shl1, z_shr, fa_and, fa_or, a_tb, a_tb0, a_b0, a_b1, a_bi, a_lc0, a_lcle, a_lcge, a_lclt, a_lcgt, upd_at, upd_ne, updL_at, updL_ne, Nat.reduceAdd, Nat.reduceSub, Nat.reduceMul, Nat.reduceLT, Nat.reduceLeDiff, Nat.reduceEqDiff, true_and, and_true, if_true, if_false, reduceIte, ne_eq, not_false_eq_true, not_true_eq_false, true_implies, false_implies, Nat.not_lt, Nat.not_le, Nat.le_refl, Nat.add_sub_cancel, Nat.lt_irrefl, Nat.not_lt_zero, Nat.zero_le, Nat.testBit_shiftRight, Nat.add_zero, reduceCtorEq, true_or, or_true, or_false, false_or, Bool.true_eq_false, Bool.false_eq_true, Bool.not_eq_false, Bool.not_eq_true, Decidable.not_not, gK w hg, gR_0 w hg, gK_1 w hg, gR_1 w hg, gK_2 w hg, gR_2 w hg, gK_3 w hg, gR_3 w hg, gK_4 w hg, gR_4 w hg, gK_5 w hg, gR_11 w hg, gK_6 w hg, gR_12 w hg, gK_7 w hg, gR_13 w hg, gK_8 w hg, gR_14 w hg, gK_9 w hg, gR_15 w hg, gK_10 w hg, gR_16 w hg, gK_11 w hg, P.1.2.1, P2.1]
        exact H
      · obtain ⟨g1, g2, g3⟩ := P.1.2.2 b hb
        have k1 := (hB.2.2 b hb).1
        have hn := hB.2.1
        refine eX1_namesByItems_21 ?_
        simp only [ks_nop, ks_aload_0, ks_lload_1, ks_lload_3, ks_iload, ks_lstore_3, ks_istore, ks_iconst, ks_lconst, ks_ldc2, ks_iinc, ks_imul, ks_ior, ks_ishl, ks_land, ks_lshr, ks_lcmp, ks_if_eq, ks_if_ne, ks_icmp_ge, ks_goto, ks_get0, ks_get3, ks_get1, ks_get2, ks_iald, ks_sld, ks_iret0, kldi_0, kldl_0, klda_0, kldz_0, kst1_0, kst2_0, kldi_1, kldl_1, klda_1, kldz_1, kst1_1n, kst2_1n, kst1_1i, kst2_1i, kst1_1r, kst2_1r, kst1_1z, kst2_1z, kst1_1l, kst2_1l, kldi_2, kldl_2, klda_2, kldz_2, kst1_2n, kst2_2n, kst1_2i, kst2_2i, kst1_2r, kst2_2r, kst1_2z, kst2_2z, kst1_2l, kst2_2l, kldi_3, kldl_3, klda_3, kldz_3, kst1_3n, kst2_3n, kst1_3i, kst2_3i, kst1_3r, kst2_3r, kst1_3z, kst2_3z, kst1_3l, kst2_3l, kldi_4, kldl_4, klda_4, kldz_4, kst1_4n, kst2_4n, kst1_4i, kst2_4i, kst1_4r, kst2_4r, kst1_4z, kst2_4z, kst1_4l, kst2_4l, kldi_5, kldl_5, klda_5, kldz_5, kst1_5n, kst2_5n, kst1_5i, kst2_5i, kst1_5r, kst2_5r, kst1_5z, kst2_5z, kst1_5l, kst2_5l, kldi_6, kldl_6, klda_6, kldz_6, kst1_6n, kst2_6n, kst1_6i, kst2_6i, kst1_6r, kst2_6r, kst1_6z, kst2_6z, kst1_6l, kst2_6l, kcat_n, kcat_i, kcat_r, kcat_z, kcat_l, zl_4, zL_15, jX1_namesByItems_0, bX1_namesByItems_0, jX1_namesByItems_15, bX1_namesByItems_15, jX1_namesByItems_21, bX1_namesByItems_21, jX1_namesByItems_59, bX1_namesByItems_59, jX1_namesByItems_65, bX1_namesByItems_65, Nat.reduceAdd, Nat.reduceLeDiff, Nat.reduceEqDiff, Nat.reduceSub, Nat.zero_le, Nat.add_left_cancel_iff, true_and, and_true, if_true, if_false, reduceIte, ne_eq, not_false_eq_true, Nat.add_eq_left, Nat.left_eq_add, kI_sI, kL_sI, kR_sI, kK_sI, kI_sL, kL_sL, kR_sL, kK_sL, kI_sIA, kL_sIA, kR_sIA, kK_sIA, kI_sLA, kL_sLA, kR_sLA, kK_sLA, gK w hg, gR_0 w hg, gK_1 w hg, gR_1 w hg, gK_2 w hg, gR_2 w hg, gK_3 w hg, gR_3 w hg, gK_4 w hg, gR_4 w hg, gK_5 w hg, gR_11 w hg, gK_6 w hg, gR_12 w hg, gK_7 w hg, gR_13 w hg, gK_8 w hg, gR_14 w hg, gK_9 w hg, gR_15 w hg, gK_10 w hg, gR_16 w hg, gK_11 w hg, P.1.2.1, g1]
        try simp (disch := omega) only [a_0, a_1, a_L0, a_L1, a_lt, a_le, a_eq, a_sub, a_addn, nI_add, pk_mul, a_in, nI_clamp, a_eqn, a_eqn', a_eqn2, a_n12, eq_self, a_ltn, a_ltn', a_len, a_len', a_shl1, z_shr, fa_and, fa_or, a_tb, a_tb0, a_b0, a_b1, a_bi, a_lc0, a_lcle, a_lcge, a_lclt, a_lcgt, upd_at, upd_ne, updL_at, updL_ne, Nat.reduceAdd, Nat.reduceSub, Nat.reduceMul, Nat.reduceLT, Nat.reduceLeDiff, Nat.reduceEqDiff, true_and, and_true, if_true, if_false, reduceIte, ne_eq, not_false_eq_true, not_true_eq_false, true_implies, false_implies, Nat.not_lt, Nat.not_le, Nat.le_refl, Nat.add_sub_cancel, Nat.lt_irrefl, Nat.not_lt_zero, Nat.zero_le, Nat.testBit_shiftRight, Nat.add_zero, reduceCtorEq, true_or, or_true, or_false, false_or, Bool.true_eq_false, Bool.false_eq_true, Bool.not_eq_false, Bool.not_eq_true, Decidable.not_not, gK w hg, gR_0 w hg, gK_1 w hg, gR_1 w hg, gK_2 w hg, gR_2 w hg, gK_3 w hg, gR_3 w hg, gK_4 w hg, gR_4 w hg, gK_5 w hg, gR_11 w hg, gK_6 w hg, gR_12 w hg, gK_7 w hg, gR_13 w hg, gK_8 w hg, gR_14 w hg, gK_9 w hg, gR_15 w hg, gK_10 w hg, gR_16 w hg, gK_11 w hg, P.1.2.1, g1]
        rw [L_nib hy (by omega)]
        have h16 : (x &&& wh B) / 2 ^ (b * 4) % 16 < 2 ^ 64 := by
          have := Nat.mod_lt ((x &&& wh B) / 2 ^ (b * 4)) (show 0 < 16 by omega)
          omega
        try simp (disch := omega) only [a_0, a_1, a_L0, a_L1, a_lt, a_le, a_eq, a_sub, a_addn, nI_add, pk_mul, a_in, nI_clamp, a_eqn, a_eqn', a_eqn2, a_n12, eq_self, a_ltn, a_ltn', a_len, a_len', a_shl1, z_shr, fa_and, fa_or, a_tb, a_tb0, a_b0, a_b1, a_bi, a_lc0, a_lcle, a_lcge, a_lclt, a_lcgt, upd_at, upd_ne, updL_at, updL_ne, Nat.reduceAdd, Nat.reduceSub, Nat.reduceMul, Nat.reduceLT, Nat.reduceLeDiff, Nat.reduceEqDiff, true_and, and_true, if_true, if_false, reduceIte, ne_eq, not_false_eq_true, not_true_eq_false, true_implies, false_implies, Nat.not_lt, Nat.not_le, Nat.le_refl, Nat.add_sub_cancel, Nat.lt_irrefl, Nat.not_lt_zero, Nat.zero_le, Nat.testBit_shiftRight, Nat.add_zero, reduceCtorEq, true_or, or_true, or_false, false_or, Bool.true_eq_false, Bool.false_eq_true, Bool.not_eq_false, Bool.not_eq_true, Decidable.not_not, a_lc64 h16]
        refine ⟨fun c => absurd c (by omega), fun _ => ⟨fun c => ?_, fun c => ?_⟩⟩
        · refine eX1_namesByItems_59 ?_
          simp only [ks_nop, ks_aload_0, ks_lload_1, ks_lload_3, ks_iload, ks_lstore_3, ks_istore, ks_iconst, ks_lconst, ks_ldc2, ks_iinc, ks_imul, ks_ior, ks_ishl, ks_land, ks_lshr, ks_lcmp, ks_if_eq, ks_if_ne, ks_icmp_ge, ks_goto, ks_get0, ks_get3, ks_get1, ks_get2, ks_iald, ks_sld, ks_iret0, kldi_0, kldl_0, klda_0, kldz_0, kst1_0, kst2_0, kldi_1, kldl_1, klda_1, kldz_1, kst1_1n, kst2_1n, kst1_1i, kst2_1i, kst1_1r, kst2_1r, kst1_1z, kst2_1z, kst1_1l, kst2_1l, kldi_2, kldl_2, klda_2, kldz_2, kst1_2n, kst2_2n, kst1_2i, kst2_2i, kst1_2r, kst2_2r, kst1_2z, kst2_2z, kst1_2l, kst2_2l, kldi_3, kldl_3, klda_3, kldz_3, kst1_3n, kst2_3n, kst1_3i, kst2_3i, kst1_3r, kst2_3r, kst1_3z, kst2_3z, kst1_3l, kst2_3l, kldi_4, kldl_4, klda_4, kldz_4, kst1_4n, kst2_4n, kst1_4i, kst2_4i, kst1_4r, kst2_4r, kst1_4z, kst2_4z, kst1_4l, kst2_4l, kldi_5, kldl_5, klda_5, kldz_5, kst1_5n, kst2_5n, kst1_5i, kst2_5i, kst1_5r, kst2_5r, kst1_5z, kst2_5z, kst1_5l, kst2_5l, kldi_6, kldl_6, klda_6, kldz_6, kst1_6n, kst2_6n, kst1_6i, kst2_6i, kst1_6r, kst2_6r, kst1_6z, kst2_6z, kst1_6l, kst2_6l, kcat_n, kcat_i, kcat_r, kcat_z, kcat_l, zl_4, zL_15, jX1_namesByItems_0, bX1_namesByItems_0, jX1_namesByItems_15, bX1_namesByItems_15, jX1_namesByItems_21, bX1_namesByItems_21, jX1_namesByItems_59, bX1_namesByItems_59, jX1_namesByItems_65, bX1_namesByItems_65, Nat.reduceAdd, Nat.reduceLeDiff, Nat.reduceEqDiff, Nat.reduceSub, Nat.zero_le, Nat.add_left_cancel_iff, true_and, and_true, if_true, if_false, reduceIte, ne_eq, not_false_eq_true, Nat.add_eq_left, Nat.left_eq_add, kI_sI, kL_sI, kR_sI, kK_sI, kI_sL, kL_sL, kR_sL, kK_sL, kI_sIA, kL_sIA, kR_sIA, kK_sIA, kI_sLA, kL_sLA, kR_sLA, kK_sLA]
          try simp (disch := omega) only [a_0, a_1, a_L0, a_L1, a_lt, a_le, a_eq, a_sub, a_addn, nI_add, pk_mul, a_in, nI_clamp, a_eqn, a_eqn', a_eqn2, a_n12, eq_self, a_ltn, a_ltn', a_len, a_len', a_shl1, z_shr, fa_and, fa_or, a_tb, a_tb0, a_b0, a_b1, a_bi, a_lc0, a_lcle, a_lcge, a_lclt, a_lcgt, upd_at, upd_ne, updL_at, updL_ne, Nat.reduceAdd, Nat.reduceSub, Nat.reduceMul, Nat.reduceLT, Nat.reduceLeDiff, Nat.reduceEqDiff, true_and, and_true, if_true, if_false, reduceIte, ne_eq, not_false_eq_true, not_true_eq_false, true_implies, false_implies, Nat.not_lt, Nat.not_le, Nat.le_refl, Nat.add_sub_cancel, Nat.lt_irrefl, Nat.not_lt_zero, Nat.zero_le, Nat.testBit_shiftRight, Nat.add_zero, reduceCtorEq, true_or, or_true, or_false, false_or, Bool.true_eq_false, Bool.false_eq_true, Bool.not_eq_false, Bool.not_eq_true, Decidable.not_not]
          rw [orf, nbF, if_neg (by simp [c]), Nat.or_zero] at ih
          exact ih
        · refine eX1_namesByItems_59 ?_
          simp only [ks_nop, ks_aload_0, ks_lload_1, ks_lload_3, ks_iload, ks_lstore_3, ks_istore, ks_iconst, ks_lconst, ks_ldc2, ks_iinc, ks_imul, ks_ior, ks_ishl, ks_land, ks_lshr, ks_lcmp, ks_if_eq, ks_if_ne, ks_icmp_ge, ks_goto, ks_get0, ks_get3, ks_get1, ks_get2, ks_iald, ks_sld, ks_iret0, kldi_0, kldl_0, klda_0, kldz_0, kst1_0, kst2_0, kldi_1, kldl_1, klda_1, kldz_1, kst1_1n, kst2_1n, kst1_1i, kst2_1i, kst1_1r, kst2_1r, kst1_1z, kst2_1z, kst1_1l, kst2_1l, kldi_2, kldl_2, klda_2, kldz_2, kst1_2n, kst2_2n, kst1_2i, kst2_2i, kst1_2r, kst2_2r, kst1_2z, kst2_2z, kst1_2l, kst2_2l, kldi_3, kldl_3, klda_3, kldz_3, kst1_3n, kst2_3n, kst1_3i, kst2_3i, kst1_3r, kst2_3r, kst1_3z, kst2_3z, kst1_3l, kst2_3l, kldi_4, kldl_4, klda_4, kldz_4, kst1_4n, kst2_4n, kst1_4i, kst2_4i, kst1_4r, kst2_4r, kst1_4z, kst2_4z, kst1_4l, kst2_4l, kldi_5, kldl_5, klda_5, kldz_5, kst1_5n, kst2_5n, kst1_5i, kst2_5i, kst1_5r, kst2_5r, kst1_5z, kst2_5z, kst1_5l, kst2_5l, kldi_6, kldl_6, klda_6, kldz_6, kst1_6n, kst2_6n, kst1_6i, kst2_6i, kst1_6r, kst2_6r, kst1_6z, kst2_6z, kst1_6l, kst2_6l, kcat_n, kcat_i, kcat_r, kcat_z, kcat_l, zl_4, zL_15, jX1_namesByItems_0, bX1_namesByItems_0, jX1_namesByItems_15, bX1_namesByItems_15, jX1_namesByItems_21, bX1_namesByItems_21, jX1_namesByItems_59, bX1_namesByItems_59, jX1_namesByItems_65, bX1_namesByItems_65, Nat.reduceAdd, Nat.reduceLeDiff, Nat.reduceEqDiff, Nat.reduceSub, Nat.zero_le, Nat.add_left_cancel_iff, true_and, and_true, if_true, if_false, reduceIte, ne_eq, not_false_eq_true, Nat.add_eq_left, Nat.left_eq_add, kI_sI, kL_sI, kR_sI, kK_sI, kI_sL, kL_sL, kR_sL, kK_sL, kI_sIA, kL_sIA, kR_sIA, kK_sIA, kI_sLA, kL_sLA, kR_sLA, kK_sLA]
          try simp (disch := omega) only [a_0, a_1, a_L0, a_L1, a_lt, a_le, a_eq, a_sub, a_addn, nI_add, pk_mul, a_in, nI_clamp, a_eqn, a_eqn', a_eqn2, a_n12, eq_self, a_ltn, a_ltn', a_len, a_len', a_shl1, z_shr, fa_and, fa_or, a_tb, a_tb0, a_b0, a_b1, a_bi, a_lc0, a_lcle, a_lcge, a_lclt, a_lcgt, upd_at, upd_ne, updL_at, updL_ne, Nat.reduceAdd, Nat.reduceSub, Nat.reduceMul, Nat.reduceLT, Nat.reduceLeDiff, Nat.reduceEqDiff, true_and, and_true, if_true, if_false, reduceIte, ne_eq, not_false_eq_true, not_true_eq_false, true_implies, false_implies, Nat.not_lt, Nat.not_le, Nat.le_refl, Nat.add_sub_cancel, Nat.lt_irrefl, Nat.not_lt_zero, Nat.zero_le, Nat.testBit_shiftRight, Nat.add_zero, reduceCtorEq, true_or, or_true, or_false, false_or, Bool.true_eq_false, Bool.false_eq_true, Bool.not_eq_false, Bool.not_eq_true, Decidable.not_not]
          rw [orf, nbF, if_pos c] at ih
          exact ih
    exact loop 0 (by omega)
  · have : nbf B x = 0 := by
      unfold nbf
      have : ∀ k, orf (nbF B x) k = 0 := by
        intro k
        induction k with
        | zero => rfl
        | succ k ih =>
          rw [orf, ih, nbF, c, Nat.zero_div]
          simp
      exact this _
    rw [nbi, this, ofs_0] at H
    exact H
end GR

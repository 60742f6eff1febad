/-! the first word about which a lesson brings something -/
def isF (B : GB) (P : List (List Nat)) (C : CL) (l s v : Nat) : Prop := 1 ≤ s ∧ s ≤ l ∧ v < (sgl B).length ^ s ∧ gdB B P C s v = true ∧ ∀ s' v', 1 ≤ s' → v' < (sgl B).length ^ s' → (s' < s ∨ (s' = s ∧ v' < v)) → gdB B P C s' v' = false
def noF (B : GB) (P : List (List Nat)) (C : CL) (l : Nat) : Prop := ∀ s v, 1 ≤ s → s ≤ l → v < (sgl B).length ^ s → gdB B P C s v = false
def smP (B : GB) (P : List (List Nat)) (C : CL) (k v : Nat) : Prop := ∃ s u, 1 ≤ s ∧ (s ≤ k ∨ (s = k + 1 ∧ u < v)) ∧ u < (sgl B).length ^ s ∧ dfB B P C s u = true
noncomputable def smD (B : GB) (P : List (List Nat)) (C : CL) (k v : Nat) : Bool := @decide (smP B P C k v) (Classical.propDecidable _)
theorem smD_iff {B : GB} {P : List (List Nat)} {C : CL} {k v : Nat} : smD B P C k v = true ↔ smP B P C k v := @decide_eq_true_iff _ (Classical.propDecidable _)
theorem a_bb (a b : Bool) : (nI a.toNat = nI b.toNat) = (a = b) := by cases a <;> cases b <;> simp <;> decide
def LH (h : KH) (B : GB) (P : List (List Nat)) (C : CL) : Prop := ∃ b : Bool, kI h 66 27 = nI b.toNat ∧ (b = true → MHa h B P C 6)
section TH
variable {B : GB} {P : List (List Nat)} {C : CL}
theorem isF_un {l s v s' v' : Nat} (a : isF B P C l s v) (b : isF B P C l s' v') : s' = s ∧ v' = v := by
  obtain ⟨a1, a2, a3, a4, a5⟩ := a
  obtain ⟨b1, b2, b3, b4, b5⟩ := b
  have h1 : ¬ (s' < s ∨ (s' = s ∧ v' < v)) := fun q => by rw [a5 s' v' b1 b3 q] at b4; cases b4
  have h2 : ¬ (s < s' ∨ (s = s' ∧ v < v')) := fun q => by rw [b5 s v a1 a3 q] at a4; cases a4
  omega
theorem isF_no {l s v : Nat} (a : isF B P C l s v) (b : noF B P C l) : False := by
  have := b s v a.1 a.2.1 a.2.2.1
  rw [a.2.2.2.1] at this; cases this
theorem smD_0 : smD B P C 0 0 = false := by
  cases q : smD B P C 0 0 with
  | false => rfl
  | true => obtain ⟨s, u, h1, h2, _⟩ := smD_iff.mp q; omega
theorem smD_next {k v : Nat} (h : dfB B P C (k + 1) v = false) : smD B P C k (v + 1) = smD B P C k v := by
  apply bool_ext
  rw [smD_iff, smD_iff]
  constructor
  · rintro ⟨s, u, h1, h2, h3, h4⟩
    refine ⟨s, u, h1, ?_, h3, h4⟩
    by_cases e : s = k + 1 ∧ u = v
    · rw [e.1, e.2, h] at h4; cases h4
    · omega
  · rintro ⟨s, u, h1, h2, h3, h4⟩
    exact ⟨s, u, h1, by omega, h3, h4⟩
theorem smD_hit {k v : Nat} (hv : v < (sgl B).length ^ (k + 1)) (h : dfB B P C (k + 1) v = true) : smD B P C k (v + 1) = true := smD_iff.mpr ⟨k + 1, v, by omega, by omega, hv, h⟩
theorem smD_row {k : Nat} : smD B P C k ((sgl B).length ^ (k + 1)) = smD B P C (k + 1) 0 := by
  apply bool_ext
  rw [smD_iff, smD_iff]
  constructor
  · rintro ⟨s, u, h1, h2, h3, h4⟩
    exact ⟨s, u, h1, by omega, h3, h4⟩
  · rintro ⟨s, u, h1, h2, h3, h4⟩
    refine ⟨s, u, h1, ?_, h3, h4⟩
    by_cases e : s = k + 1
    · subst e; exact Or.inr ⟨rfl, h3⟩
    · omega
theorem gd_df {s v : Nat} (h : dfB B P C s v = false) : gdB B P C s v = false := by unfold gdB; rw [h]; rfl
end TH
section RF
variable {r : Nat} {h : KH} {Q : KO → KH → Prop} {B : GB} {nn : Nat} {P : List (List Nat)} {C : CL}
theorem c_seeks {l : Nat} (hr : 12 ≤ r) (w : kW h) (hS : MS h B) (G : MB (kI h 66) (kI h 67) (kI h 68) (kI h 69) B nn) (hB : bok B nn) (M : MT h P C) (MRs : MR h B P C) (hP : POK P) (hC : COK C) (hsg : PSG B P C) (L : ML h B) (T : MTo h B) (h6 : l ≤ 6) (hL : LH h B P C) (h35 : kI h 66 35 = nI 0)
    (H1 : ∀ h' s v, FM [21, 27, 28, 31, 35, 56, 57, 58, 63, 64, 65, 67, 68, 69, 71, 72, 73] [76, 77, 81, 82, 83, 84, 85, 86, 95, 99, 100] [] h h' → MT h' P C → kI h' 66 35 = nI 0 → LH h' B P C → isF B P C l s v → kI h' 66 63 = nI s → kI h' 66 64 = nI v → Q (.inl none) h')
    (H2 : ∀ h', FM [21, 27, 28, 31, 35, 56, 57, 58, 63, 64, 65, 67, 68, 69, 71, 72, 73] [76, 77, 81, 82, 83, 84, 85, 86, 95, 99, 100] [] h h' → MT h' P C → kI h' 66 35 = nI 0 → LH h' B P C → noF B P C l → kI h' 66 63 = nI 0 → kI h' 66 65 = nI (smD B P C l 0).toNat → Q (.inl none) h') : kCalls r yX12_seeks [.ref 66, .int (nI l)] h Q := by
  have r2 : 2 ≤ r := by omega
  have w0 := w
  have s4 := sgl_len B
  have f0 : FM [63, 65] [] [] h (sI (sI h 66 63 (nI 0)) 66 65 (nI 0)) := FM_put (FM_put (FM_rf _ _ _ _) (by simp)) (by simp)
  have g63 : kI (sI (sI h 66 63 (nI 0)) 66 65 (nI 0)) 66 63 = nI 0 := by rw [kI_sI, if_pos rfl, upd_ne _ _ (by omega), kI_sI, if_pos rfl, upd_at]
  have g65 : kI (sI (sI h 66 63 (nI 0)) 66 65 (nI 0)) 66 65 = nI 0 := by rw [kI_sI, if_pos rfl, upd_at]
  have st : ∀ h', FM [21, 27, 28, 31, 35, 56, 57, 58, 63, 64, 65, 67, 68, 69, 71, 72, 73] [76, 77, 81, 82, 83, 84, 85, 86, 95, 99, 100] [] h h' → kW h' ∧ MS h' B ∧ MB (kI h' 66) (kI h' 67) (kI h' 68) (kI h' 69) B nn ∧ MR h' B P C ∧ ML h' B ∧ MTo h' B := by
    intro h' f
    exact ⟨FM_W f w0, MS_fm f (by simp) (by simp) hS, MB_fm f (by simp) (by simp) (by simp) (by simp) (by simp) G, MR_fm f (by simp) (by simp) MRs, ML_fm f (by simp) (by simp) L, MTo_fm f (by simp) T⟩
  have LH_fm : ∀ {J S T : List Nat} {h h' : KH}, FM J S T h h' → 27 ∉ J → 81 ∉ S → LH h B P C → LH h' B P C := by
    rintro J S T h h' f j s ⟨b, b1, b2⟩
    refine ⟨b, by rw [f.2 27 j]; exact b1, fun q => ?_⟩
    have := b2 q
    unfold MHa
    rw [FM_I f s (by omega)]; exact this
  have outer : 0 < (sgl B).length → ∀ k, k ≤ l → ∀ h', FM [21, 27, 28, 31, 35, 56, 57, 58, 63, 64, 65, 67, 68, 69, 71, 72, 73] [76, 77, 81, 82, 83, 84, 85, 86, 95, 99, 100] [] h h' → MT h' P C → kI h' 66 35 = nI 0 → kI h' 66 27 = nI 1 → MHa h' B P C 6 → noF B P C k → kI h' 66 63 = nI 0 → kI h' 66 65 = nI (smD B P C k 0).toNat → ∀ e3 : Option Value, kRun r mX12_seeks 24 [some (.ref 66), some (.int (nI l)), some (.int (nI (k + 1))), e3] [] h' Q := by
    intro hp
    refine up_ind ?_ (fun k hk ih => ?_)
    · intro h' f M' k35 k27 K nf k63 k65 e3
      refine eX12_seeks_24 ?_
      simp only [ks_nop, ks_aload_0, ks_iload_1, ks_iload_2, ks_iload_3, ks_istore_2, ks_istore_3, ks_iconst, ks_iinc, ks_iadd, ks_if_eq, ks_icmp_eq, ks_if_ne, ks_icmp_ge, ks_icmp_gt, ks_goto, ks_get0, ks_get3, ks_get1, ks_get2, ks_put0, ks_put1, ks_put2, ks_put3, ks_iald, ks_sld, ks_bald, ks_inv0, ks_inv1, ks_inv2, ks_inv4, ks_inv3, ks_inv5, ks_inv6, ks_inv7, ks_inv8, ks_vret, kldi_0, kldl_0, klda_0, kldz_0, kst1_0, kst2_0, kldi_1, kldl_1, klda_1, kldz_1, kst1_1n, kst2_1n, kst1_1i, kst2_1i, kst1_1r, kst2_1r, kst1_1z, kst2_1z, kst1_1l, kst2_1l, kldi_2, kldl_2, klda_2, kldz_2, kst1_2n, kst2_2n, kst1_2i, kst2_2i, kst1_2r, kst2_2r, kst1_2z, kst2_2z, kst1_2l, kst2_2l, kldi_3, kldl_3, klda_3, kldz_3, kst1_3n, kst2_3n, kst1_3i, kst2_3i, kst1_3r, kst2_3r, kst1_3z, kst2_3z, kst1_3l, kst2_3l, kpr_r, kcat_n, kcat_i, kcat_r, kcat_z, kcat_l, kargs_0, kargs_s, kret_v, kret_n, kret_x, jX12_seeks_0, bX12_seeks_0, jX12_seeks_18, bX12_seeks_18, jX12_seeks_24, bX12_seeks_24, jX12_seeks_31, bX12_seeks_31, jX12_seeks_88, bX12_seeks_88, jX12_seeks_94, bX12_seeks_94, jX12_seeks_100, bX12_seeks_100, Nat.reduceAdd, Nat.reduceLeDiff, Nat.reduceEqDiff, Nat.reduceSub, Nat.zero_le, Nat.add_left_cancel_iff, true_and, and_true, if_true, if_false, reduceIte, ne_eq, not_false_eq_true, Nat.add_eq_left, Nat.left_eq_add, kI_sI, kL_sI, kR_sI, kK_sI, kI_sL, kL_sL, kR_sL, kK_sL, kI_sIA, kL_sIA, kR_sIA, kK_sIA, kI_sLA, kL_sLA, kR_sLA, kK_sLA]
      try simp (disch := omega) only [a_0, a_1, a_L0, a_L1, a_lt, a_le, a_eq, a_sub, a_addn, nI_add, pk_mul, a_in, nI_clamp, a_eqn, a_eqn', a_eqn2, a_n12, eq_self, a_ltn, a_ltn', a_len, a_len', a_shl1, z_shr, fa_and, fa_or, a_tb, a_tb0, a_b0, a_b1, a_bi, a_lc0, a_lcle, a_lcge, a_lclt, a_lcgt, upd_at, upd_ne, updL_at, updL_ne, Nat.reduceAdd, Nat.reduceSub, Nat.reduceMul, Nat.reduceLT, Nat.reduceLeDiff, Nat.reduceEqDiff, true_and, and_true, if_true, if_false, reduceIte, ne_eq, not_false_eq_true, not_true_eq_false, true_implies, false_implies, Nat.not_lt, Nat.not_le, Nat.le_refl, Nat.add_sub_cancel, Nat.lt_irrefl, Nat.not_lt_zero, Nat.zero_le, Nat.testBit_shiftRight, Nat.add_zero, reduceCtorEq, true_or, or_true, or_false, false_or, Bool.true_eq_false, Bool.false_eq_true, Bool.not_eq_false, Bool.not_eq_true, Decidable.not_not]
      repeat (first | refine ⟨fun _ => ?_, fun c => absurd c (by omega)⟩ | refine ⟨fun c => absurd c (by omega), fun _ => ?_⟩)
      exact H2 h' f M' k35 ⟨true, k27, fun _ => K⟩ nf k63 k65
    · intro h' f M' k35 k27 K nf k63 k65 e3
      have pb := pw_b s4 (l := k + 1) (by omega)
      have fb := fFr_b s4 (l := k + 1) (by omega)
      rw [fFr_s (by omega)] at fb
      have inner : ∀ v, v ≤ (sgl B).length ^ (k + 1) → ∀ h', FM [21, 27, 28, 31, 35, 56, 57, 58, 63, 64, 65, 67, 68, 69, 71, 72, 73] [76, 77, 81, 82, 83, 84, 85, 86, 95, 99, 100] [] h h' → MT h' P C → kI h' 66 35 = nI 0 → kI h' 66 27 = nI 1 → MHa h' B P C 6 → (∀ u, u < v → gdB B P C (k + 1) u = false) → kI h' 66 63 = nI 0 → kI h' 66 65 = nI (smD B P C k v).toNat → kRun r mX12_seeks 31 [some (.ref 66), some (.int (nI l)), some (.int (nI (k + 1))), some (.int (nI v))] [] h' Q := by
        refine up_ind ?_ (fun v hv ih2 => ?_)
        · intro h' f M' k35 k27 K nv k63 k65
          obtain ⟨w, S', G', R', L', T'⟩ := st h' f
          have e79 := (L' (k + 1) (by omega) (by omega)).2
          rw [smD_row] at k65
          refine eX12_seeks_31 ?_
          simp only [ks_nop, ks_aload_0, ks_iload_1, ks_iload_2, ks_iload_3, ks_istore_2, ks_istore_3, ks_iconst, ks_iinc, ks_iadd, ks_if_eq, ks_icmp_eq, ks_if_ne, ks_icmp_ge, ks_icmp_gt, ks_goto, ks_get0, ks_get3, ks_get1, ks_get2, ks_put0, ks_put1, ks_put2, ks_put3, ks_iald, ks_sld, ks_bald, ks_inv0, ks_inv1, ks_inv2, ks_inv4, ks_inv3, ks_inv5, ks_inv6, ks_inv7, ks_inv8, ks_vret, kldi_0, kldl_0, klda_0, kldz_0, kst1_0, kst2_0, kldi_1, kldl_1, klda_1, kldz_1, kst1_1n, kst2_1n, kst1_1i, kst2_1i, kst1_1r, kst2_1r, kst1_1z, kst2_1z, kst1_1l, kst2_1l, kldi_2, kldl_2, klda_2, kldz_2, kst1_2n, kst2_2n, kst1_2i, kst2_2i, kst1_2r, kst2_2r, kst1_2z, kst2_2z, kst1_2l, kst2_2l, kldi_3, kldl_3, klda_3, kldz_3, kst1_3n, kst2_3n, kst1_3i, kst2_3i, kst1_3r, kst2_3r, kst1_3z, kst2_3z, kst1_3l, kst2_3l, kpr_r, kcat_n, kcat_i, kcat_r, kcat_z, kcat_l, kargs_0, kargs_s, kret_v, kret_n, kret_x, jX12_seeks_0, bX12_seeks_0, jX12_seeks_18, bX12_seeks_18, jX12_seeks_24, bX12_seeks_24, jX12_seeks_31, bX12_seeks_31, jX12_seeks_88, bX12_seeks_88, jX12_seeks_94, bX12_seeks_94, jX12_seeks_100, bX12_seeks_100, Nat.reduceAdd, Nat.reduceLeDiff, Nat.reduceEqDiff, Nat.reduceSub, Nat.zero_le, Nat.add_left_cancel_iff, true_and, and_true, if_true, if_false, reduceIte, ne_eq, not_false_eq_true, Nat.add_eq_left, Nat.left_eq_add, kI_sI, kL_sI, kR_sI, kK_sI, kI_sL, kL_sL, kR_sL, kK_sL, kI_sIA, kL_sIA, kR_sIA, kK_sIA, kI_sLA, kL_sLA, kR_sLA, kK_sLA, wK_66 w, wR_66_3 w, wR_66_4 w, wR_66_5 w, wR_66_7 w, wR_66_10 w, wR_66_11 w, wR_66_12 w, wR_66_13 w, wR_66_14 w, wR_66_20 w, wR_66_22 w, wR_66_23 w, wR_66_24 w, wR_66_25 w, wR_66_26 w, wR_66_29 w, wR_66_30 w, wR_66_32 w, wR_66_33 w, wR_66_34 w, wR_66_38 w, wR_66_39 w, wR_66_40 w, wR_66_41 w, wR_66_42 w, wR_66_43 w, wR_66_44 w, wR_66_51 w, wR_66_55 w, wR_66_59 w, wR_66_60 w, wR_66_61 w, wR_66_66 w, wR_66_70 w, wR_66_74 w, wR_66_77 w, wR_66_81 w, wR_66_83 w, wK_67 w, wK_68 w, wK_69 w, wK_70 w, wK_71 w, wK_72 w, wK_73 w, wK_74 w, wK_75 w, wK_76 w, wK_77 w, wK_78 w, wK_79 w, wK_80 w, wK_81 w, wK_82 w, wK_83 w, wK_84 w, wK_85 w, wK_86 w, wK_87 w, wK_88 w, wK_89 w, wK_90 w, wK_91 w, wK_92 w, wK_93 w, wK_94 w, wK_95 w, wK_96 w, wK_97 w, wK_98 w, wK_99 w, wK_100 w, wK_101 w, wK_102 w, wK_103 w, wK_104 w, e79]
          try simp (disch := omega) only [a_0, a_1, a_L0, a_L1, a_lt, a_le, a_eq, a_sub, a_addn, nI_add, pk_mul, a_in, nI_clamp, a_eqn, a_eqn', a_eqn2, a_n12, eq_self, a_ltn, a_ltn', a_len, a_len', a_shl1, z_shr, fa_and, fa_or, a_tb, a_tb0, a_b0, a_b1, a_bi, a_lc0, a_lcle, a_lcge, a_lclt, a_lcgt, upd_at, upd_ne, updL_at, updL_ne, Nat.reduceAdd, Nat.reduceSub, Nat.reduceMul, Nat.reduceLT, Nat.reduceLeDiff, Nat.reduceEqDiff, true_and, and_true, if_true, if_false, reduceIte, ne_eq, not_false_eq_true, not_true_eq_false, true_implies, false_implies, Nat.not_lt, Nat.not_le, Nat.le_refl, Nat.add_sub_cancel, Nat.lt_irrefl, Nat.not_lt_zero, Nat.zero_le, Nat.testBit_shiftRight, Nat.add_zero, reduceCtorEq, true_or, or_true, or_false, false_or, Bool.true_eq_false, Bool.false_eq_true, Bool.not_eq_false, Bool.not_eq_true, Decidable.not_not, wK_66 w, wR_66_3 w, wR_66_4 w, wR_66_5 w, wR_66_7 w, wR_66_10 w, wR_66_11 w, wR_66_12 w, wR_66_13 w, wR_66_14 w, wR_66_20 w, wR_66_22 w, wR_66_23 w, wR_66_24 w, wR_66_25 w, wR_66_26 w, wR_66_29 w, wR_66_30 w, wR_66_32 w, wR_66_33 w, wR_66_34 w, wR_66_38 w, wR_66_39 w, wR_66_40 w, wR_66_41 w, wR_66_42 w, wR_66_43 w, wR_66_44 w, wR_66_51 w, wR_66_55 w, wR_66_59 w, wR_66_60 w, wR_66_61 w, wR_66_66 w, wR_66_70 w, wR_66_74 w, wR_66_77 w, wR_66_81 w, wR_66_83 w, wK_67 w, wK_68 w, wK_69 w, wK_70 w, wK_71 w, wK_72 w, wK_73 w, wK_74 w, wK_75 w, wK_76 w, wK_77 w, wK_78 w, wK_79 w, wK_80 w, wK_81 w, wK_82 w, wK_83 w, wK_84 w, wK_85 w, wK_86 w, wK_87 w, wK_88 w, wK_89 w, wK_90 w, wK_91 w, wK_92 w, wK_93 w, wK_94 w, wK_95 w, wK_96 w, wK_97 w, wK_98 w, wK_99 w, wK_100 w, wK_101 w, wK_102 w, wK_103 w, wK_104 w, e79]
          repeat (first | refine ⟨fun _ => ?_, fun c => absurd c (by omega)⟩ | refine ⟨fun c => absurd c (by omega), fun _ => ?_⟩)
          refine ih h' f M' k35 k27 K (fun s u q1 q2 q3 => ?_) k63 k65 _
          by_cases e : s = k + 1
          · subst e; exact nv u q3
          · exact nf s u q1 (by omega) q3
        · intro h' f M' k35 k27 K nv k63 k65
          obtain ⟨w, S', G', R', L', T'⟩ := st h' f
          have e79 := (L' (k + 1) (by omega) (by omega)).2
          have e78 := (L' (k + 1) (by omega) (by omega)).1
          have e80 := T' (k + 1) v (by omega) (by omega) hv
          have td : tdB B (wN (sgl B) (k + 1) v) = (derB B (wN (sgl B) (k + 1) v) 0).toNat := rfl
          rw [td] at e80
          have nx : ∀ h3, FM [21, 27, 28, 31, 35, 56, 57, 58, 63, 64, 65, 67, 68, 69, 71, 72, 73] [76, 77, 81, 82, 83, 84, 85, 86, 95, 99, 100] [] h h3 → MT h3 P C → kI h3 66 35 = nI 0 → kI h3 66 27 = nI 1 → MHa h3 B P C 6 → gdB B P C (k + 1) v = false → kI h3 66 63 = nI 0 → kI h3 66 65 = nI (smD B P C k (v + 1)).toNat → kRun r mX12_seeks 88 [some (.ref 66), some (.int (nI l)), some (.int (nI (k + 1))), some (.int (nI v))] [] h3 Q := by
            intro h3 q1 q2 q3 q4 q5 q6 q7 q8
            refine eX12_seeks_88 ?_
            simp only [ks_nop, ks_aload_0, ks_iload_1, ks_iload_2, ks_iload_3, ks_istore_2, ks_istore_3, ks_iconst, ks_iinc, ks_iadd, ks_if_eq, ks_icmp_eq, ks_if_ne, ks_icmp_ge, ks_icmp_gt, ks_goto, ks_get0, ks_get3, ks_get1, ks_get2, ks_put0, ks_put1, ks_put2, ks_put3, ks_iald, ks_sld, ks_bald, ks_inv0, ks_inv1, ks_inv2, ks_inv4, ks_inv3, ks_inv5, ks_inv6, ks_inv7, ks_inv8, ks_vret, kldi_0, kldl_0, klda_0, kldz_0, kst1_0, kst2_0, kldi_1, kldl_1, klda_1, kldz_1, kst1_1n, kst2_1n, kst1_1i, kst2_1i, kst1_1r, kst2_1r, kst1_1z, kst2_1z, kst1_1l, kst2_1l, kldi_2, kldl_2, klda_2, kldz_2, kst1_2n, kst2_2n, kst1_2i, kst2_2i, kst1_2r, kst2_2r, kst1_2z, kst2_2z, kst1_2l, kst2_2l, kldi_3, kldl_3, klda_3, kldz_3, kst1_3n, kst2_3n, kst1_3i, kst2_3i, kst1_3r, kst2_3r, kst1_3z, kst2_3z, kst1_3l, kst2_3l, kpr_r, kcat_n, kcat_i, kcat_r, kcat_z, kcat_l, kargs_0, kargs_s, kret_v, kret_n, kret_x, jX12_seeks_0, bX12_seeks_0, jX12_seeks_18, bX12_seeks_18, jX12_seeks_24, bX12_seeks_24, jX12_seeks_31, bX12_seeks_31, jX12_seeks_88, bX12_seeks_88, jX12_seeks_94, bX12_seeks_94, jX12_seeks_100, bX12_seeks_100, Nat.reduceAdd, Nat.reduceLeDiff, Nat.reduceEqDiff, Nat.reduceSub, Nat.zero_le, Nat.add_left_cancel_iff, true_and, and_true, if_true, if_false, reduceIte, ne_eq, not_false_eq_true, Nat.add_eq_left, Nat.left_eq_add, kI_sI, kL_sI, kR_sI, kK_sI, kI_sL, kL_sL, kR_sL, kK_sL, kI_sIA, kL_sIA, kR_sIA, kK_sIA, kI_sLA, kL_sLA, kR_sLA, kK_sLA]
            try simp (disch := omega) only [a_0, a_1, a_L0, a_L1, a_lt, a_le, a_eq, a_sub, a_addn, nI_add, pk_mul, a_in, nI_clamp, a_eqn, a_eqn', a_eqn2, a_n12, eq_self, a_ltn, a_ltn', a_len, a_len', a_shl1, z_shr, fa_and, fa_or, a_tb, a_tb0, a_b0, a_b1, a_bi, a_lc0, a_lcle, a_lcge, a_lclt, a_lcgt, upd_at, upd_ne, updL_at, updL_ne, Nat.reduceAdd, Nat.reduceSub, Nat.reduceMul, Nat.reduceLT, Nat.reduceLeDiff, Nat.reduceEqDiff, true_and, and_true, if_true, if_false, reduceIte, ne_eq, not_false_eq_true, not_true_eq_false, true_implies, false_implies, Nat.not_lt, Nat.not_le, Nat.le_refl, Nat.add_sub_cancel, Nat.lt_irrefl, Nat.not_lt_zero, Nat.zero_le, Nat.testBit_shiftRight, Nat.add_zero, reduceCtorEq, true_or, or_true, or_false, false_or, Bool.true_eq_false, Bool.false_eq_true, Bool.not_eq_false, Bool.not_eq_true, Decidable.not_not]
            repeat (first | refine ⟨fun _ => ?_, fun c => absurd c (by omega)⟩ | refine ⟨fun c => absurd c (by omega), fun _ => ?_⟩)
            refine ih2 h3 q1 q2 q3 q4 q5 (fun u hu => ?_) q7 q8
            by_cases e : u = v
            · subst e; exact q6
            · exact nv u (by omega)
          refine eX12_seeks_31 ?_
          simp only [ks_nop, ks_aload_0, ks_iload_1, ks_iload_2, ks_iload_3, ks_istore_2, ks_istore_3, ks_iconst, ks_iinc, ks_iadd, ks_if_eq, ks_icmp_eq, ks_if_ne, ks_icmp_ge, ks_icmp_gt, ks_goto, ks_get0, ks_get3, ks_get1, ks_get2, ks_put0, ks_put1, ks_put2, ks_put3, ks_iald, ks_sld, ks_bald, ks_inv0, ks_inv1, ks_inv2, ks_inv4, ks_inv3, ks_inv5, ks_inv6, ks_inv7, ks_inv8, ks_vret, kldi_0, kldl_0, klda_0, kldz_0, kst1_0, kst2_0, kldi_1, kldl_1, klda_1, kldz_1, kst1_1n, kst2_1n, kst1_1i, kst2_1i, kst1_1r, kst2_1r, kst1_1z, kst2_1z, kst1_1l, kst2_1l, kldi_2, kldl_2, klda_2, kldz_2, kst1_2n, kst2_2n, kst1_2i, kst2_2i, kst1_2r, kst2_2r, kst1_2z, kst2_2z, kst1_2l, kst2_2l, kldi_3, kldl_3, klda_3, kldz_3, kst1_3n, kst2_3n, kst1_3i, kst2_3i, kst1_3r, kst2_3r, kst1_3z, kst2_3z, kst1_3l, kst2_3l, kpr_r, kcat_n, kcat_i, kcat_r, kcat_z, kcat_l, kargs_0, kargs_s, kret_v, kret_n, kret_x, jX12_seeks_0, bX12_seeks_0, jX12_seeks_18, bX12_seeks_18, jX12_seeks_24, bX12_seeks_24, jX12_seeks_31, bX12_seeks_31, jX12_seeks_88, bX12_seeks_88, jX12_seeks_94, bX12_seeks_94, jX12_seeks_100, bX12_seeks_100, Nat.reduceAdd, Nat.reduceLeDiff, Nat.reduceEqDiff, Nat.reduceSub, Nat.zero_le, Nat.add_left_cancel_iff, true_and, and_true, if_true, if_false, reduceIte, ne_eq, not_false_eq_true, Nat.add_eq_left, Nat.left_eq_add, kI_sI, kL_sI, kR_sI, kK_sI, kI_sL, kL_sL, kR_sL, kK_sL, kI_sIA, kL_sIA, kR_sIA, kK_sIA, kI_sLA, kL_sLA, kR_sLA, kK_sLA, wK_66 w, wR_66_3 w, wR_66_4 w, wR_66_5 w, wR_66_7 w, wR_66_10 w, wR_66_11 w, wR_66_12 w, wR_66_13 w, wR_66_14 w, wR_66_20 w, wR_66_22 w, wR_66_23 w, wR_66_24 w, wR_66_25 w, wR_66_26 w, wR_66_29 w, wR_66_30 w, wR_66_32 w, wR_66_33 w, wR_66_34 w, wR_66_38 w, wR_66_39 w, wR_66_40 w, wR_66_41 w, wR_66_42 w, wR_66_43 w, wR_66_44 w, wR_66_51 w, wR_66_55 w, wR_66_59 w, wR_66_60 w, wR_66_61 w, wR_66_66 w, wR_66_70 w, wR_66_74 w, wR_66_77 w, wR_66_81 w, wR_66_83 w, wK_67 w, wK_68 w, wK_69 w, wK_70 w, wK_71 w, wK_72 w, wK_73 w, wK_74 w, wK_75 w, wK_76 w, wK_77 w, wK_78 w, wK_79 w, wK_80 w, wK_81 w, wK_82 w, wK_83 w, wK_84 w, wK_85 w, wK_86 w, wK_87 w, wK_88 w, wK_89 w, wK_90 w, wK_91 w, wK_92 w, wK_93 w, wK_94 w, wK_95 w, wK_96 w, wK_97 w, wK_98 w, wK_99 w, wK_100 w, wK_101 w, wK_102 w, wK_103 w, wK_104 w, e79, r2]
          try simp (disch := omega) only [a_0, a_1, a_L0, a_L1, a_lt, a_le, a_eq, a_sub, a_addn, nI_add, pk_mul, a_in, nI_clamp, a_eqn, a_eqn', a_eqn2, a_n12, eq_self, a_ltn, a_ltn', a_len, a_len', a_shl1, z_shr, fa_and, fa_or, a_tb, a_tb0, a_b0, a_b1, a_bi, a_lc0, a_lcle, a_lcge, a_lclt, a_lcgt, upd_at, upd_ne, updL_at, updL_ne, Nat.reduceAdd, Nat.reduceSub, Nat.reduceMul, Nat.reduceLT, Nat.reduceLeDiff, Nat.reduceEqDiff, true_and, and_true, if_true, if_false, reduceIte, ne_eq, not_false_eq_true, not_true_eq_false, true_implies, false_implies, Nat.not_lt, Nat.not_le, Nat.le_refl, Nat.add_sub_cancel, Nat.lt_irrefl, Nat.not_lt_zero, Nat.zero_le, Nat.testBit_shiftRight, Nat.add_zero, reduceCtorEq, true_or, or_true, or_false, false_or, Bool.true_eq_false, Bool.false_eq_true, Bool.not_eq_false, Bool.not_eq_true, Decidable.not_not, wK_66 w, wR_66_3 w, wR_66_4 w, wR_66_5 w, wR_66_7 w, wR_66_10 w, wR_66_11 w, wR_66_12 w, wR_66_13 w, wR_66_14 w, wR_66_20 w, wR_66_22 w, wR_66_23 w, wR_66_24 w, wR_66_25 w, wR_66_26 w, wR_66_29 w, wR_66_30 w, wR_66_32 w, wR_66_33 w, wR_66_34 w, wR_66_38 w, wR_66_39 w, wR_66_40 w, wR_66_41 w, wR_66_42 w, wR_66_43 w, wR_66_44 w, wR_66_51 w, wR_66_55 w, wR_66_59 w, wR_66_60 w, wR_66_61 w, wR_66_66 w, wR_66_70 w, wR_66_74 w, wR_66_77 w, wR_66_81 w, wR_66_83 w, wK_67 w, wK_68 w, wK_69 w, wK_70 w, wK_71 w, wK_72 w, wK_73 w, wK_74 w, wK_75 w, wK_76 w, wK_77 w, wK_78 w, wK_79 w, wK_80 w, wK_81 w, wK_82 w, wK_83 w, wK_84 w, wK_85 w, wK_86 w, wK_87 w, wK_88 w, wK_89 w, wK_90 w, wK_91 w, wK_92 w, wK_93 w, wK_94 w, wK_95 w, wK_96 w, wK_97 w, wK_98 w, wK_99 w, wK_100 w, wK_101 w, wK_102 w, wK_103 w, wK_104 w, e79, r2]
          repeat (first | refine ⟨fun _ => ?_, fun c => absurd c (by omega)⟩ | refine ⟨fun c => absurd c (by omega), fun _ => ?_⟩)
          try simp (disch := omega) only [a_0, a_1, a_L0, a_L1, a_lt, a_le, a_eq, a_sub, a_addn, nI_add, pk_mul, a_in, nI_clamp, a_eqn, a_eqn', a_eqn2, a_n12, eq_self, a_ltn, a_ltn', a_len, a_len', a_shl1, z_shr, fa_and, fa_or, a_tb, a_tb0, a_b0, a_b1, a_bi, a_lc0, a_lcle, a_lcge, a_lclt, a_lcgt, upd_at, upd_ne, updL_at, updL_ne, Nat.reduceAdd, Nat.reduceSub, Nat.reduceMul, Nat.reduceLT, Nat.reduceLeDiff, Nat.reduceEqDiff, true_and, and_true, if_true, if_false, reduceIte, ne_eq, not_false_eq_true, not_true_eq_false, true_implies, false_implies, Nat.not_lt, Nat.not_le, Nat.le_refl, Nat.add_sub_cancel, Nat.lt_irrefl, Nat.not_lt_zero, Nat.zero_le, Nat.testBit_shiftRight, Nat.add_zero, reduceCtorEq, true_or, or_true, or_false, false_or, Bool.true_eq_false, Bool.false_eq_true, Bool.not_eq_false, Bool.not_eq_true, Decidable.not_not, e78, r2]
          try simp (disch := omega) only [a_0, a_1, a_L0, a_L1, a_lt, a_le, a_eq, a_sub, a_addn, nI_add, pk_mul, a_in, nI_clamp, a_eqn, a_eqn', a_eqn2, a_n12, eq_self, a_ltn, a_ltn', a_len, a_len', a_shl1, z_shr, fa_and, fa_or, a_tb, a_tb0, a_b0, a_b1, a_bi, a_lc0, a_lcle, a_lcge, a_lclt, a_lcgt, upd_at, upd_ne, updL_at, updL_ne, Nat.reduceAdd, Nat.reduceSub, Nat.reduceMul, Nat.reduceLT, Nat.reduceLeDiff, Nat.reduceEqDiff, true_and, and_true, if_true, if_false, reduceIte, ne_eq, not_false_eq_true, not_true_eq_false, true_implies, false_implies, Nat.not_lt, Nat.not_le, Nat.le_refl, Nat.add_sub_cancel, Nat.lt_irrefl, Nat.not_lt_zero, Nat.zero_le, Nat.testBit_shiftRight, Nat.add_zero, reduceCtorEq, true_or, or_true, or_false, false_or, Bool.true_eq_false, Bool.false_eq_true, Bool.not_eq_false, Bool.not_eq_true, Decidable.not_not, e80, r2, or_true]
          refine c_isHad (by omega) w L' K hC (by omega) (by omega) hv ?_
          simp only [ks_nop, ks_aload_0, ks_iload_1, ks_iload_2, ks_iload_3, ks_istore_2, ks_istore_3, ks_iconst, ks_iinc, ks_iadd, ks_if_eq, ks_icmp_eq, ks_if_ne, ks_icmp_ge, ks_icmp_gt, ks_goto, ks_get0, ks_get3, ks_get1, ks_get2, ks_put0, ks_put1, ks_put2, ks_put3, ks_iald, ks_sld, ks_bald, ks_inv0, ks_inv1, ks_inv2, ks_inv4, ks_inv3, ks_inv5, ks_inv6, ks_inv7, ks_inv8, ks_vret, kldi_0, kldl_0, klda_0, kldz_0, kst1_0, kst2_0, kldi_1, kldl_1, klda_1, kldz_1, kst1_1n, kst2_1n, kst1_1i, kst2_1i, kst1_1r, kst2_1r, kst1_1z, kst2_1z, kst1_1l, kst2_1l, kldi_2, kldl_2, klda_2, kldz_2, kst1_2n, kst2_2n, kst1_2i, kst2_2i, kst1_2r, kst2_2r, kst1_2z, kst2_2z, kst1_2l, kst2_2l, kldi_3, kldl_3, klda_3, kldz_3, kst1_3n, kst2_3n, kst1_3i, kst2_3i, kst1_3r, kst2_3r, kst1_3z, kst2_3z, kst1_3l, kst2_3l, kpr_r, kcat_n, kcat_i, kcat_r, kcat_z, kcat_l, kargs_0, kargs_s, kret_v, kret_n, kret_x, jX12_seeks_0, bX12_seeks_0, jX12_seeks_18, bX12_seeks_18, jX12_seeks_24, bX12_seeks_24, jX12_seeks_31, bX12_seeks_31, jX12_seeks_88, bX12_seeks_88, jX12_seeks_94, bX12_seeks_94, jX12_seeks_100, bX12_seeks_100, Nat.reduceAdd, Nat.reduceLeDiff, Nat.reduceEqDiff, Nat.reduceSub, Nat.zero_le, Nat.add_left_cancel_iff, true_and, and_true, if_true, if_false, reduceIte, ne_eq, not_false_eq_true, Nat.add_eq_left, Nat.left_eq_add, kI_sI, kL_sI, kR_sI, kK_sI, kI_sL, kL_sL, kR_sL, kK_sL, kI_sIA, kL_sIA, kR_sIA, kK_sIA, kI_sLA, kL_sLA, kR_sLA, kK_sLA, wK_66 w, wR_66_3 w, wR_66_4 w, wR_66_5 w, wR_66_7 w, wR_66_10 w, wR_66_11 w, wR_66_12 w, wR_66_13 w, wR_66_14 w, wR_66_20 w, wR_66_22 w, wR_66_23 w, wR_66_24 w, wR_66_25 w, wR_66_26 w, wR_66_29 w, wR_66_30 w, wR_66_32 w, wR_66_33 w, wR_66_34 w, wR_66_38 w, wR_66_39 w, wR_66_40 w, wR_66_41 w, wR_66_42 w, wR_66_43 w, wR_66_44 w, wR_66_51 w, wR_66_55 w, wR_66_59 w, wR_66_60 w, wR_66_61 w, wR_66_66 w, wR_66_70 w, wR_66_74 w, wR_66_77 w, wR_66_81 w, wR_66_83 w, wK_67 w, wK_68 w, wK_69 w, wK_70 w, wK_71 w, wK_72 w, wK_73 w, wK_74 w, wK_75 w, wK_76 w, wK_77 w, wK_78 w, wK_79 w, wK_80 w, wK_81 w, wK_82 w, wK_83 w, wK_84 w, wK_85 w, wK_86 w, wK_87 w, wK_88 w, wK_89 w, wK_90 w, wK_91 w, wK_92 w, wK_93 w, wK_94 w, wK_95 w, wK_96 w, wK_97 w, wK_98 w, wK_99 w, wK_100 w, wK_101 w, wK_102 w, wK_103 w, wK_104 w, a_bb, or_true]
          try simp (disch := omega) only [a_0, a_1, a_L0, a_L1, a_lt, a_le, a_eq, a_sub, a_addn, nI_add, pk_mul, a_in, nI_clamp, a_eqn, a_eqn', a_eqn2, a_n12, eq_self, a_ltn, a_ltn', a_len, a_len', a_shl1, z_shr, fa_and, fa_or, a_tb, a_tb0, a_b0, a_b1, a_bi, a_lc0, a_lcle, a_lcge, a_lclt, a_lcgt, upd_at, upd_ne, updL_at, updL_ne, Nat.reduceAdd, Nat.reduceSub, Nat.reduceMul, Nat.reduceLT, Nat.reduceLeDiff, Nat.reduceEqDiff, true_and, and_true, if_true, if_false, reduceIte, ne_eq, not_false_eq_true, not_true_eq_false, true_implies, false_implies, Nat.not_lt, Nat.not_le, Nat.le_refl, Nat.add_sub_cancel, Nat.lt_irrefl, Nat.not_lt_zero, Nat.zero_le, Nat.testBit_shiftRight, Nat.add_zero, reduceCtorEq, true_or, or_true, or_false, false_or, Bool.true_eq_false, Bool.false_eq_true, Bool.not_eq_false, Bool.not_eq_true, Decidable.not_not, wK_66 w, wR_66_3 w, wR_66_4 w, wR_66_5 w, wR_66_7 w, wR_66_10 w, wR_66_11 w, wR_66_12 w, wR_66_13 w, wR_66_14 w, wR_66_20 w, wR_66_22 w, wR_66_23 w, wR_66_24 w, wR_66_25 w, wR_66_26 w, wR_66_29 w, wR_66_30 w, wR_66_32 w, wR_66_33 w, wR_66_34 w, wR_66_38 w, wR_66_39 w, wR_66_40 w, wR_66_41 w, wR_66_42 w, wR_66_43 w, wR_66_44 w, wR_66_51 w, wR_66_55 w, wR_66_59 w, wR_66_60 w, wR_66_61 w, wR_66_66 w, wR_66_70 w, wR_66_74 w, wR_66_77 w, wR_66_81 w, wR_66_83 w, wK_67 w, wK_68 w, wK_69 w, wK_70 w, wK_71 w, wK_72 w, wK_73 w, wK_74 w, wK_75 w, wK_76 w, wK_77 w, wK_78 w, wK_79 w, wK_80 w, wK_81 w, wK_82 w, wK_83 w, wK_84 w, wK_85 w, wK_86 w, wK_87 w, wK_88 w, wK_89 w, wK_90 w, wK_91 w, wK_92 w, wK_93 w, wK_94 w, wK_95 w, wK_96 w, wK_97 w, wK_98 w, wK_99 w, wK_100 w, wK_101 w, wK_102 w, wK_103 w, wK_104 w, a_bb, or_true]
          repeat (first | refine ⟨fun _ => ?_, fun c => absurd c (by omega)⟩ | refine ⟨fun c => absurd c (by omega), fun _ => ?_⟩)
          refine ⟨fun q => ?_, fun q => ?_⟩
          · have df : dfB B P C (k + 1) v = false := by unfold dfB; rw [q]; simp
            exact nx h' f M' k35 k27 K (gd_df df) k63 (by rw [smD_next df]; exact k65)
          · have df : dfB B P C (k + 1) v = true := by unfold dfB; simpa using q
            have fa : FM [65] [] [] h' (sI h' 66 65 (nI 1)) := FM_put (FM_rf _ _ _ _) (by simp)
            have fa' : FM [21, 27, 28, 31, 35, 56, 57, 58, 63, 64, 65, 67, 68, 69, 71, 72, 73] [76, 77, 81, 82, 83, 84, 85, 86, 95, 99, 100] [] h (sI h' 66 65 (nI 1)) := FM_put f (by simp)
            have a65 : kI (sI h' 66 65 (nI 1)) 66 65 = nI 1 := by rw [kI_sI, if_pos rfl, upd_at]
            generalize sI h' 66 65 (nI 1) = ha at fa fa' a65
            obtain ⟨w, Sa, Ga, Ra, La, Ta⟩ := st ha fa'
            try simp only [r2, true_and]
            refine c_wouldCome (by omega) w Sa Ga hB (MT_fm fa (by simp) (by simp) (by simp) (by simp) (by simp) (by simp) (by simp) M') Ra hP hC hsg La Ta (by omega) (by omega) hv df (by rw [fa.2 35 (by simp)]; exact k35) (fun h3 f3 M3 k3 => ?_)
            have f3' : FM [21, 27, 28, 31, 35, 56, 57, 58, 63, 64, 65, 67, 68, 69, 71, 72, 73] [76, 77, 81, 82, 83, 84, 85, 86, 95, 99, 100] [] h h3 := FM_tr fa' f3 (by simp) (by simp) (by simp)
            have c27 : kI h3 66 27 = nI 1 := by rw [f3.2 27 (by simp), fa.2 27 (by simp)]; exact k27
            have cK : MHa h3 B P C 6 := by
              unfold MHa
              rw [FM_I f3 (a := 81) (by simp) (by omega), FM_I fa (a := 81) (by simp) (by omega)]; exact K
            have c63 : kI h3 66 63 = nI 0 := by rw [f3.2 63 (by simp), fa.2 63 (by simp)]; exact k63
            have c65 : kI h3 66 65 = nI 1 := by rw [f3.2 65 (by simp)]; exact a65
            have w := FM_W f3' w0
            cases gd : gdB B P C (k + 1) v with
            | false =>
              simp only [ks_nop, ks_aload_0, ks_iload_1, ks_iload_2, ks_iload_3, ks_istore_2, ks_istore_3, ks_iconst, ks_iinc, ks_iadd, ks_if_eq, ks_icmp_eq, ks_if_ne, ks_icmp_ge, ks_icmp_gt, ks_goto, ks_get0, ks_get3, ks_get1, ks_get2, ks_put0, ks_put1, ks_put2, ks_put3, ks_iald, ks_sld, ks_bald, ks_inv0, ks_inv1, ks_inv2, ks_inv4, ks_inv3, ks_inv5, ks_inv6, ks_inv7, ks_inv8, ks_vret, kldi_0, kldl_0, klda_0, kldz_0, kst1_0, kst2_0, kldi_1, kldl_1, klda_1, kldz_1, kst1_1n, kst2_1n, kst1_1i, kst2_1i, kst1_1r, kst2_1r, kst1_1z, kst2_1z, kst1_1l, kst2_1l, kldi_2, kldl_2, klda_2, kldz_2, kst1_2n, kst2_2n, kst1_2i, kst2_2i, kst1_2r, kst2_2r, kst1_2z, kst2_2z, kst1_2l, kst2_2l, kldi_3, kldl_3, klda_3, kldz_3, kst1_3n, kst2_3n, kst1_3i, kst2_3i, kst1_3r, kst2_3r, kst1_3z, kst2_3z, kst1_3l, kst2_3l, kpr_r, kcat_n, kcat_i, kcat_r, kcat_z, kcat_l, kargs_0, kargs_s, kret_v, kret_n, kret_x, jX12_seeks_0, bX12_seeks_0, jX12_seeks_18, bX12_seeks_18, jX12_seeks_24, bX12_seeks_24, jX12_seeks_31, bX12_seeks_31, jX12_seeks_88, bX12_seeks_88, jX12_seeks_94, bX12_seeks_94, jX12_seeks_100, bX12_seeks_100, Nat.reduceAdd, Nat.reduceLeDiff, Nat.reduceEqDiff, Nat.reduceSub, Nat.zero_le, Nat.add_left_cancel_iff, true_and, and_true, if_true, if_false, reduceIte, ne_eq, not_false_eq_true, Nat.add_eq_left, Nat.left_eq_add, kI_sI, kL_sI, kR_sI, kK_sI, kI_sL, kL_sL, kR_sL, kK_sL, kI_sIA, kL_sIA, kR_sIA, kK_sIA, kI_sLA, kL_sLA, kR_sLA, kK_sLA, Bool.toNat_false]
              try simp (disch := omega) only [a_0, a_1, a_L0, a_L1, a_lt, a_le, a_eq, a_sub, a_addn, nI_add, pk_mul, a_in, nI_clamp, a_eqn, a_eqn', a_eqn2, a_n12, eq_self, a_ltn, a_ltn', a_len, a_len', a_shl1, z_shr, fa_and, fa_or, a_tb, a_tb0, a_b0, a_b1, a_bi, a_lc0, a_lcle, a_lcge, a_lclt, a_lcgt, upd_at, upd_ne, updL_at, updL_ne, Nat.reduceAdd, Nat.reduceSub, Nat.reduceMul, Nat.reduceLT, Nat.reduceLeDiff, Nat.reduceEqDiff, true_and, and_true, if_true, if_false, reduceIte, ne_eq, not_false_eq_true, not_true_eq_false, true_implies, false_implies, Nat.not_lt, Nat.not_le, Nat.le_refl, Nat.add_sub_cancel, Nat.lt_irrefl, Nat.not_lt_zero, Nat.zero_le, Nat.testBit_shiftRight, Nat.add_zero, reduceCtorEq, true_or, or_true, or_false, false_or, Bool.true_eq_false, Bool.false_eq_true, Bool.not_eq_false, Bool.not_eq_true, Decidable.not_not, Bool.toNat_false]
              repeat (first | refine ⟨fun _ => ?_, fun c => absurd c (by omega)⟩ | refine ⟨fun c => absurd c (by omega), fun _ => ?_⟩)
              exact nx h3 f3' M3 k3 c27 cK gd c63 (by rw [smD_hit hv df]; exact c65)
            | true =>
              simp only [ks_nop, ks_aload_0, ks_iload_1, ks_iload_2, ks_iload_3, ks_istore_2, ks_istore_3, ks_iconst, ks_iinc, ks_iadd, ks_if_eq, ks_icmp_eq, ks_if_ne, ks_icmp_ge, ks_icmp_gt, ks_goto, ks_get0, ks_get3, ks_get1, ks_get2, ks_put0, ks_put1, ks_put2, ks_put3, ks_iald, ks_sld, ks_bald, ks_inv0, ks_inv1, ks_inv2, ks_inv4, ks_inv3, ks_inv5, ks_inv6, ks_inv7, ks_inv8, ks_vret, kldi_0, kldl_0, klda_0, kldz_0, kst1_0, kst2_0, kldi_1, kldl_1, klda_1, kldz_1, kst1_1n, kst2_1n, kst1_1i, kst2_1i, kst1_1r, kst2_1r, kst1_1z, kst2_1z, kst1_1l, kst2_1l, kldi_2, kldl_2, klda_2, kldz_2, kst1_2n, kst2_2n, kst1_2i, kst2_2i, kst1_2r, kst2_2r, kst1_2z, kst2_2z, kst1_2l, kst2_2l, kldi_3, kldl_3, klda_3, kldz_3, kst1_3n, kst2_3n, kst1_3i, kst2_3i, kst1_3r, kst2_3r, kst1_3z, kst2_3z, kst1_3l, kst2_3l, kpr_r, kcat_n, kcat_i, kcat_r, kcat_z, kcat_l, kargs_0, kargs_s, kret_v, kret_n, kret_x, jX12_seeks_0, bX12_seeks_0, jX12_seeks_18, bX12_seeks_18, jX12_seeks_24, bX12_seeks_24, jX12_seeks_31, bX12_seeks_31, jX12_seeks_88, bX12_seeks_88, jX12_seeks_94, bX12_seeks_94, jX12_seeks_100, bX12_seeks_100, Nat.reduceAdd, Nat.reduceLeDiff, Nat.reduceEqDiff, Nat.reduceSub, Nat.zero_le, Nat.add_left_cancel_iff, true_and, and_true, if_true, if_false, reduceIte, ne_eq, not_false_eq_true, Nat.add_eq_left, Nat.left_eq_add, kI_sI, kL_sI, kR_sI, kK_sI, kI_sL, kL_sL, kR_sL, kK_sL, kI_sIA, kL_sIA, kR_sIA, kK_sIA, kI_sLA, kL_sLA, kR_sLA, kK_sLA, wK_66 w, wR_66_3 w, wR_66_4 w, wR_66_5 w, wR_66_7 w, wR_66_10 w, wR_66_11 w, wR_66_12 w, wR_66_13 w, wR_66_14 w, wR_66_20 w, wR_66_22 w, wR_66_23 w, wR_66_24 w, wR_66_25 w, wR_66_26 w, wR_66_29 w, wR_66_30 w, wR_66_32 w, wR_66_33 w, wR_66_34 w, wR_66_38 w, wR_66_39 w, wR_66_40 w, wR_66_41 w, wR_66_42 w, wR_66_43 w, wR_66_44 w, wR_66_51 w, wR_66_55 w, wR_66_59 w, wR_66_60 w, wR_66_61 w, wR_66_66 w, wR_66_70 w, wR_66_74 w, wR_66_77 w, wR_66_81 w, wR_66_83 w, wK_67 w, wK_68 w, wK_69 w, wK_70 w, wK_71 w, wK_72 w, wK_73 w, wK_74 w, wK_75 w, wK_76 w, wK_77 w, wK_78 w, wK_79 w, wK_80 w, wK_81 w, wK_82 w, wK_83 w, wK_84 w, wK_85 w, wK_86 w, wK_87 w, wK_88 w, wK_89 w, wK_90 w, wK_91 w, wK_92 w, wK_93 w, wK_94 w, wK_95 w, wK_96 w, wK_97 w, wK_98 w, wK_99 w, wK_100 w, wK_101 w, wK_102 w, wK_103 w, wK_104 w, Bool.toNat_true]
              try simp (disch := omega) only [a_0, a_1, a_L0, a_L1, a_lt, a_le, a_eq, a_sub, a_addn, nI_add, pk_mul, a_in, nI_clamp, a_eqn, a_eqn', a_eqn2, a_n12, eq_self, a_ltn, a_ltn', a_len, a_len', a_shl1, z_shr, fa_and, fa_or, a_tb, a_tb0, a_b0, a_b1, a_bi, a_lc0, a_lcle, a_lcge, a_lclt, a_lcgt, upd_at, upd_ne, updL_at, updL_ne, Nat.reduceAdd, Nat.reduceSub, Nat.reduceMul, Nat.reduceLT, Nat.reduceLeDiff, Nat.reduceEqDiff, true_and, and_true, if_true, if_false, reduceIte, ne_eq, not_false_eq_true, not_true_eq_false, true_implies, false_implies, Nat.not_lt, Nat.not_le, Nat.le_refl, Nat.add_sub_cancel, Nat.lt_irrefl, Nat.not_lt_zero, Nat.zero_le, Nat.testBit_shiftRight, Nat.add_zero, reduceCtorEq, true_or, or_true, or_false, false_or, Bool.true_eq_false, Bool.false_eq_true, Bool.not_eq_false, Bool.not_eq_true, Decidable.not_not, wK_66 w, wR_66_3 w, wR_66_4 w, wR_66_5 w, wR_66_7 w, wR_66_10 w, wR_66_11 w, wR_66_12 w, wR_66_13 w, wR_66_14 w, wR_66_20 w, wR_66_22 w, wR_66_23 w, wR_66_24 w, wR_66_25 w, wR_66_26 w, wR_66_29 w, wR_66_30 w, wR_66_32 w, wR_66_33 w, wR_66_34 w, wR_66_38 w, wR_66_39 w, wR_66_40 w, wR_66_41 w, wR_66_42 w, wR_66_43 w, wR_66_44 w, wR_66_51 w, wR_66_55 w, wR_66_59 w, wR_66_60 w, wR_66_61 w, wR_66_66 w, wR_66_70 w, wR_66_74 w, wR_66_77 w, wR_66_81 w, wR_66_83 w, wK_67 w, wK_68 w, wK_69 w, wK_70 w, wK_71 w, wK_72 w, wK_73 w, wK_74 w, wK_75 w, wK_76 w, wK_77 w, wK_78 w, wK_79 w, wK_80 w, wK_81 w, wK_82 w, wK_83 w, wK_84 w, wK_85 w, wK_86 w, wK_87 w, wK_88 w, wK_89 w, wK_90 w, wK_91 w, wK_92 w, wK_93 w, wK_94 w, wK_95 w, wK_96 w, wK_97 w, wK_98 w, wK_99 w, wK_100 w, wK_101 w, wK_102 w, wK_103 w, wK_104 w, Bool.toNat_true]
              repeat (first | refine ⟨fun _ => ?_, fun c => absurd c (by omega)⟩ | refine ⟨fun c => absurd c (by omega), fun _ => ?_⟩)
              have fb' : FM [63, 64] [] [] h3 (sI (sI h3 66 63 (nI (k + 1))) 66 64 (nI v)) := FM_put (FM_put (FM_rf _ _ _ _) (by simp)) (by simp)
              refine H1 (sI (sI h3 66 63 (nI (k + 1))) 66 64 (nI v)) (k + 1) v (FM_put (FM_put f3' (by simp)) (by simp)) (MT_fm fb' (by simp) (by simp) (by simp) (by simp) (by simp) (by simp) (by simp) M3) (by rw [fb'.2 35 (by simp)]; exact k3) (LH_fm fb' (by simp) (by simp) ⟨true, c27, fun _ => cK⟩) ⟨by omega, by omega, hv, gd, fun s' v' q1 q2 q3 => ?_⟩ ?_ ?_
              · by_cases e : s' = k + 1
                · subst e; exact nv v' (by omega)
                · exact nf s' v' q1 (by omega) q2
              · rw [kI_sI, if_pos rfl, upd_ne _ _ (by omega), kI_sI, if_pos rfl, upd_at]
              · rw [kI_sI, if_pos rfl, upd_at]
      refine eX12_seeks_24 ?_
      simp only [ks_nop, ks_aload_0, ks_iload_1, ks_iload_2, ks_iload_3, ks_istore_2, ks_istore_3, ks_iconst, ks_iinc, ks_iadd, ks_if_eq, ks_icmp_eq, ks_if_ne, ks_icmp_ge, ks_icmp_gt, ks_goto, ks_get0, ks_get3, ks_get1, ks_get2, ks_put0, ks_put1, ks_put2, ks_put3, ks_iald, ks_sld, ks_bald, ks_inv0, ks_inv1, ks_inv2, ks_inv4, ks_inv3, ks_inv5, ks_inv6, ks_inv7, ks_inv8, ks_vret, kldi_0, kldl_0, klda_0, kldz_0, kst1_0, kst2_0, kldi_1, kldl_1, klda_1, kldz_1, kst1_1n, kst2_1n, kst1_1i, kst2_1i, kst1_1r, kst2_1r, kst1_1z, kst2_1z, kst1_1l, kst2_1l, kldi_2, kldl_2, klda_2, kldz_2, kst1_2n, kst2_2n, kst1_2i, kst2_2i, kst1_2r, kst2_2r, kst1_2z, kst2_2z, kst1_2l, kst2_2l, kldi_3, kldl_3, klda_3, kldz_3, kst1_3n, kst2_3n, kst1_3i, kst2_3i, kst1_3r, kst2_3r, kst1_3z, kst2_3z, kst1_3l, kst2_3l, kpr_r, kcat_n, kcat_i, kcat_r, kcat_z, kcat_l, kargs_0, kargs_s, kret_v, kret_n, kret_x, jX12_seeks_0, bX12_seeks_0, jX12_seeks_18, bX12_seeks_18, jX12_seeks_24, bX12_seeks_24, jX12_seeks_31, bX12_seeks_31, jX12_seeks_88, bX12_seeks_88, jX12_seeks_94, bX12_seeks_94, jX12_seeks_100, bX12_seeks_100, Nat.reduceAdd, Nat.reduceLeDiff, Nat.reduceEqDiff, Nat.reduceSub, Nat.zero_le, Nat.add_left_cancel_iff, true_and, and_true, if_true, if_false, reduceIte, ne_eq, not_false_eq_true, Nat.add_eq_left, Nat.left_eq_add, kI_sI, kL_sI, kR_sI, kK_sI, kI_sL, kL_sL, kR_sL, kK_sL, kI_sIA, kL_sIA, kR_sIA, kK_sIA, kI_sLA, kL_sLA, kR_sLA, kK_sLA]
      try simp (disch := omega) only [a_0, a_1, a_L0, a_L1, a_lt, a_le, a_eq, a_sub, a_addn, nI_add, pk_mul, a_in, nI_clamp, a_eqn, a_eqn', a_eqn2, a_n12, eq_self, a_ltn, a_ltn', a_len, a_len', a_shl1, z_shr, fa_and, fa_or, a_tb, a_tb0, a_b0, a_b1, a_bi, a_lc0, a_lcle, a_lcge, a_lclt, a_lcgt, upd_at, upd_ne, updL_at, updL_ne, Nat.reduceAdd, Nat.reduceSub, Nat.reduceMul, Nat.reduceLT, Nat.reduceLeDiff, Nat.reduceEqDiff, true_and, and_true, if_true, if_false, reduceIte, ne_eq, not_false_eq_true, not_true_eq_false, true_implies, false_implies, Nat.not_lt, Nat.not_le, Nat.le_refl, Nat.add_sub_cancel, Nat.lt_irrefl, Nat.not_lt_zero, Nat.zero_le, Nat.testBit_shiftRight, Nat.add_zero, reduceCtorEq, true_or, or_true, or_false, false_or, Bool.true_eq_false, Bool.false_eq_true, Bool.not_eq_false, Bool.not_eq_true, Decidable.not_not]
      repeat (first | refine ⟨fun _ => ?_, fun c => absurd c (by omega)⟩ | refine ⟨fun c => absurd c (by omega), fun _ => ?_⟩)
      exact inner 0 (by omega) h' f M' k35 k27 K (fun u hu => absurd hu (by omega)) k63 k65
  have s6 := hS.1
  refine sX12_seeks _ _ ?_
  refine eX12_seeks_0 ?_
  simp only [ks_nop, ks_aload_0, ks_iload_1, ks_iload_2, ks_iload_3, ks_istore_2, ks_istore_3, ks_iconst, ks_iinc, ks_iadd, ks_if_eq, ks_icmp_eq, ks_if_ne, ks_icmp_ge, ks_icmp_gt, ks_goto, ks_get0, ks_get3, ks_get1, ks_get2, ks_put0, ks_put1, ks_put2, ks_put3, ks_iald, ks_sld, ks_bald, ks_inv0, ks_inv1, ks_inv2, ks_inv4, ks_inv3, ks_inv5, ks_inv6, ks_inv7, ks_inv8, ks_vret, kldi_0, kldl_0, klda_0, kldz_0, kst1_0, kst2_0, kldi_1, kldl_1, klda_1, kldz_1, kst1_1n, kst2_1n, kst1_1i, kst2_1i, kst1_1r, kst2_1r, kst1_1z, kst2_1z, kst1_1l, kst2_1l, kldi_2, kldl_2, klda_2, kldz_2, kst1_2n, kst2_2n, kst1_2i, kst2_2i, kst1_2r, kst2_2r, kst1_2z, kst2_2z, kst1_2l, kst2_2l, kldi_3, kldl_3, klda_3, kldz_3, kst1_3n, kst2_3n, kst1_3i, kst2_3i, kst1_3r, kst2_3r, kst1_3z, kst2_3z, kst1_3l, kst2_3l, kpr_r, kcat_n, kcat_i, kcat_r, kcat_z, kcat_l, kargs_0, kargs_s, kret_v, kret_n, kret_x, jX12_seeks_0, bX12_seeks_0, jX12_seeks_18, bX12_seeks_18, jX12_seeks_24, bX12_seeks_24, jX12_seeks_31, bX12_seeks_31, jX12_seeks_88, bX12_seeks_88, jX12_seeks_94, bX12_seeks_94, jX12_seeks_100, bX12_seeks_100, Nat.reduceAdd, Nat.reduceLeDiff, Nat.reduceEqDiff, Nat.reduceSub, Nat.zero_le, Nat.add_left_cancel_iff, true_and, and_true, if_true, if_false, reduceIte, ne_eq, not_false_eq_true, Nat.add_eq_left, Nat.left_eq_add, kI_sI, kL_sI, kR_sI, kK_sI, kI_sL, kL_sL, kR_sL, kK_sL, kI_sIA, kL_sIA, kR_sIA, kK_sIA, kI_sLA, kL_sLA, kR_sLA, kK_sLA, wK_66 w, wR_66_3 w, wR_66_4 w, wR_66_5 w, wR_66_7 w, wR_66_10 w, wR_66_11 w, wR_66_12 w, wR_66_13 w, wR_66_14 w, wR_66_20 w, wR_66_22 w, wR_66_23 w, wR_66_24 w, wR_66_25 w, wR_66_26 w, wR_66_29 w, wR_66_30 w, wR_66_32 w, wR_66_33 w, wR_66_34 w, wR_66_38 w, wR_66_39 w, wR_66_40 w, wR_66_41 w, wR_66_42 w, wR_66_43 w, wR_66_44 w, wR_66_51 w, wR_66_55 w, wR_66_59 w, wR_66_60 w, wR_66_61 w, wR_66_66 w, wR_66_70 w, wR_66_74 w, wR_66_77 w, wR_66_81 w, wR_66_83 w, wK_67 w, wK_68 w, wK_69 w, wK_70 w, wK_71 w, wK_72 w, wK_73 w, wK_74 w, wK_75 w, wK_76 w, wK_77 w, wK_78 w, wK_79 w, wK_80 w, wK_81 w, wK_82 w, wK_83 w, wK_84 w, wK_85 w, wK_86 w, wK_87 w, wK_88 w, wK_89 w, wK_90 w, wK_91 w, wK_92 w, wK_93 w, wK_94 w, wK_95 w, wK_96 w, wK_97 w, wK_98 w, wK_99 w, wK_100 w, wK_101 w, wK_102 w, wK_103 w, wK_104 w, s6, or_true, true_or]
  try simp (disch := omega) only [a_0, a_1, a_L0, a_L1, a_lt, a_le, a_eq, a_sub, a_addn, nI_add, pk_mul, a_in, nI_clamp, a_eqn, a_eqn', a_eqn2, a_n12, eq_self, a_ltn, a_ltn', a_len, a_len', a_shl1, z_shr, fa_and, fa_or, a_tb, a_tb0, a_b0, a_b1, a_bi, a_lc0, a_lcle, a_lcge, a_lclt, a_lcgt, upd_at, upd_ne, updL_at, updL_ne, Nat.reduceAdd, Nat.reduceSub, Nat.reduceMul, Nat.reduceLT, Nat.reduceLeDiff, Nat.reduceEqDiff, true_and, and_true, if_true, if_false, reduceIte, ne_eq, not_false_eq_true, not_true_eq_false, true_implies, false_implies, Nat.not_lt, Nat.not_le, Nat.le_refl, Nat.add_sub_cancel, Nat.lt_irrefl, Nat.not_lt_zero, Nat.zero_le, Nat.testBit_shiftRight, Nat.add_zero, reduceCtorEq, true_or, or_true, or_false, false_or, Bool.true_eq_false, Bool.false_eq_true, Bool.not_eq_false, Bool.not_eq_true, Decidable.not_not, s6, or_true, true_or]
  try simp (disch := omega) only [a_0, a_1, a_L0, a_L1, a_lt, a_le, a_eq, a_sub, a_addn, nI_add, pk_mul, a_in, nI_clamp, a_eqn, a_eqn', a_eqn2, a_n12, eq_self, a_ltn, a_ltn', a_len, a_len', a_shl1, z_shr, fa_and, fa_or, a_tb, a_tb0, a_b0, a_b1, a_bi, a_lc0, a_lcle, a_lcge, a_lclt, a_lcgt, upd_at, upd_ne, updL_at, updL_ne, Nat.reduceAdd, Nat.reduceSub, Nat.reduceMul, Nat.reduceLT, Nat.reduceLeDiff, Nat.reduceEqDiff, true_and, and_true, if_true, if_false, reduceIte, ne_eq, not_false_eq_true, not_true_eq_false, true_implies, false_implies, Nat.not_lt, Nat.not_le, Nat.le_refl, Nat.add_sub_cancel, Nat.lt_irrefl, Nat.not_lt_zero, Nat.zero_le, Nat.testBit_shiftRight, Nat.add_zero, reduceCtorEq, true_or, or_true, or_false, false_or, Bool.true_eq_false, Bool.false_eq_true, Bool.not_eq_false, Bool.not_eq_true, Decidable.not_not, s6]
  generalize sI (sI h 66 63 (nI 0)) 66 65 (nI 0) = ha at f0 g63 g65
  have f0' : FM [21, 27, 28, 31, 35, 56, 57, 58, 63, 64, 65, 67, 68, 69, 71, 72, 73] [76, 77, 81, 82, 83, 84, 85, 86, 95, 99, 100] [] h ha := FM_mono f0 (by simp) (by simp) (by simp)
  have Ma := MT_fm f0 (by simp) (by simp) (by simp) (by simp) (by simp) (by simp) (by simp) M
  have a35 : kI ha 66 35 = nI 0 := by rw [f0.2 35 (by simp)]; exact h35
  have La := LH_fm f0 (by simp) (by simp) hL
  refine ⟨fun q => ?_, fun q => ?_⟩
  · obtain ⟨w, Sa, Ga, Ra, Li, Ta⟩ := st ha f0'
    obtain ⟨b, b1, b2⟩ := La
    try simp only [r2, true_and]
    refine c_laysHad (b := b) (by omega) w Sa Li Ra Ma.2.1 hC b1 b2 (fun h2 f2 k27 K => ?_)
    simp only [ks_nop, ks_aload_0, ks_iload_1, ks_iload_2, ks_iload_3, ks_istore_2, ks_istore_3, ks_iconst, ks_iinc, ks_iadd, ks_if_eq, ks_icmp_eq, ks_if_ne, ks_icmp_ge, ks_icmp_gt, ks_goto, ks_get0, ks_get3, ks_get1, ks_get2, ks_put0, ks_put1, ks_put2, ks_put3, ks_iald, ks_sld, ks_bald, ks_inv0, ks_inv1, ks_inv2, ks_inv4, ks_inv3, ks_inv5, ks_inv6, ks_inv7, ks_inv8, ks_vret, kldi_0, kldl_0, klda_0, kldz_0, kst1_0, kst2_0, kldi_1, kldl_1, klda_1, kldz_1, kst1_1n, kst2_1n, kst1_1i, kst2_1i, kst1_1r, kst2_1r, kst1_1z, kst2_1z, kst1_1l, kst2_1l, kldi_2, kldl_2, klda_2, kldz_2, kst1_2n, kst2_2n, kst1_2i, kst2_2i, kst1_2r, kst2_2r, kst1_2z, kst2_2z, kst1_2l, kst2_2l, kldi_3, kldl_3, klda_3, kldz_3, kst1_3n, kst2_3n, kst1_3i, kst2_3i, kst1_3r, kst2_3r, kst1_3z, kst2_3z, kst1_3l, kst2_3l, kpr_r, kcat_n, kcat_i, kcat_r, kcat_z, kcat_l, kargs_0, kargs_s, kret_v, kret_n, kret_x, jX12_seeks_0, bX12_seeks_0, jX12_seeks_18, bX12_seeks_18, jX12_seeks_24, bX12_seeks_24, jX12_seeks_31, bX12_seeks_31, jX12_seeks_88, bX12_seeks_88, jX12_seeks_94, bX12_seeks_94, jX12_seeks_100, bX12_seeks_100, Nat.reduceAdd, Nat.reduceLeDiff, Nat.reduceEqDiff, Nat.reduceSub, Nat.zero_le, Nat.add_left_cancel_iff, true_and, and_true, if_true, if_false, reduceIte, ne_eq, not_false_eq_true, Nat.add_eq_left, Nat.left_eq_add, kI_sI, kL_sI, kR_sI, kK_sI, kI_sL, kL_sL, kR_sL, kK_sL, kI_sIA, kL_sIA, kR_sIA, kK_sIA, kI_sLA, kL_sLA, kR_sLA, kK_sLA]
    try simp (disch := omega) only [a_0, a_1, a_L0, a_L1, a_lt, a_le, a_eq, a_sub, a_addn, nI_add, pk_mul, a_in, nI_clamp, a_eqn, a_eqn', a_eqn2, a_n12, eq_self, a_ltn, a_ltn', a_len, a_len', a_shl1, z_shr, fa_and, fa_or, a_tb, a_tb0, a_b0, a_b1, a_bi, a_lc0, a_lcle, a_lcge, a_lclt, a_lcgt, upd_at, upd_ne, updL_at, updL_ne, Nat.reduceAdd, Nat.reduceSub, Nat.reduceMul, Nat.reduceLT, Nat.reduceLeDiff, Nat.reduceEqDiff, true_and, and_true, if_true, if_false, reduceIte, ne_eq, not_false_eq_true, not_true_eq_false, true_implies, false_implies, Nat.not_lt, Nat.not_le, Nat.le_refl, Nat.add_sub_cancel, Nat.lt_irrefl, Nat.not_lt_zero, Nat.zero_le, Nat.testBit_shiftRight, Nat.add_zero, reduceCtorEq, true_or, or_true, or_false, false_or, Bool.true_eq_false, Bool.false_eq_true, Bool.not_eq_false, Bool.not_eq_true, Decidable.not_not]
    repeat (first | refine ⟨fun _ => ?_, fun c => absurd c (by omega)⟩ | refine ⟨fun c => absurd c (by omega), fun _ => ?_⟩)
    refine outer (by omega) 0 (by omega) h2 (FM_tr f0' f2 (by simp) (by simp) (by simp)) (MT_fm f2 (by simp) (by simp) (by simp) (by simp) (by simp) (by simp) (by simp) Ma) (by rw [f2.2 35 (by simp)]; exact a35) k27 K (fun s v q1 q2 _ => by omega) (by rw [f2.2 63 (by simp)]; exact g63) ?_ _
    rw [f2.2 65 (by simp), smD_0]; exact g65
  · have z : ∀ s v, 1 ≤ s → ¬ v < (sgl B).length ^ s := by
      intro s v q1 q2
      rw [q, Nat.zero_pow (by omega)] at q2; omega
    refine H2 ha f0' Ma a35 La (fun s v q1 _ q3 => absurd q3 (z s v q1)) g63 ?_
    have : smD B P C l 0 = false := by
      cases q : smD B P C l 0 with
      | false => rfl
      | true =>
        obtain ⟨s, u, h1, _, h3, _⟩ := smD_iff.mp q
        exact absurd h3 (z s u h1)
    rw [this]; exact g65
/-- what a lesson about a word makes of parts and contexts -/
def LR (B : GB) (P : List (List Nat)) (C : CL) (s v : Nat) (P' : List (List Nat)) (C' : CL) (x y z : Int32) : Prop :=
  (derB B (wN (sgl B) s v) 0 = true ∧ P' = lkP P (wN (sgl B) s v) ∧ C' = lkC C (wN (sgl B) s v) ∧ x = -nI 1 ∧ y = -nI 1 ∧ z = -nI 1) ∨
  (derB B (wN (sgl B) s v) 0 = false ∧ C' = C ∧ ∃ R S, RFn B P C (wN (sgl B) s v) s 0 0 s R S ∧ P' = addP (addP P (sb (wN (sgl B) s v) S.1 S.2.1)) (sb (wN (sgl B) s v) S.2.1 S.2.2) ∧ x = nI R.1 ∧ y = nI R.2.1 ∧ z = nI R.2.2)
theorem RFn_un (hC : C.length ≤ 12) {w : List Nat} {R S R' S' : Nat × Nat × Nat} : ∀ n x i j, RFn B P C w n x i j R S → RFn B P C w n x i j R' S' → R' = R ∧ S' = S := by
  intro n
  induction n with
  | zero => intro x i j a; exact a.elim
  | succ n ih =>
    rintro x i j ⟨k, y, z, s, a⟩ ⟨k', y', z', s', b⟩
    obtain ⟨e1, e2, e3⟩ := SPL_un hC s s'
    subst e1 e2 e3
    rcases a with ⟨a1, a2⟩ | ⟨a1, a2, a3⟩ | ⟨a1, a2, a3, a4⟩ <;> rcases b with ⟨b1, b2⟩ | ⟨b1, b2, b3⟩ | ⟨b1, b2, b3, b4⟩
    · exact ih _ _ _ a2 b2
    · rw [a1] at b1; cases b1
    · rw [a1] at b1; cases b1
    · rw [a1] at b1; cases b1
    · exact ih _ _ _ a3 b3
    · rw [a2] at b2; cases b2
    · rw [a1] at b1; cases b1
    · rw [a2] at b2; cases b2
    · exact ⟨by rw [a3, b3], by rw [a4, b4]⟩
theorem LR_un (hC : C.length ≤ 12) {s v : Nat} {P1 P2 : List (List Nat)} {C1 C2 : CL} {x y z x' y' z' : Int32} (a : LR B P C s v P1 C1 x y z) (b : LR B P C s v P2 C2 x' y' z') : P2 = P1 ∧ C2 = C1 ∧ x' = x ∧ y' = y ∧ z' = z := by
  rcases a with ⟨a1, a2, a3, a4, a5, a6⟩ | ⟨a1, a2, R, S, a3, a4, a5, a6, a7⟩ <;> rcases b with ⟨b1, b2, b3, b4, b5, b6⟩ | ⟨b1, b2, R', S', b3, b4, b5, b6, b7⟩
  · rw [a2, a3, a4, a5, a6, b2, b3, b4, b5, b6]; exact ⟨rfl, rfl, rfl, rfl, rfl⟩
  · rw [a1] at b1; cases b1
  · rw [a1] at b1; cases b1
  · obtain ⟨e1, e2⟩ := RFn_un hC _ _ _ _ a3 b3
    rw [a2, a4, a5, a6, a7, b2, b4, b5, b6, b7, e1, e2]; exact ⟨rfl, rfl, rfl, rfl, rfl⟩
theorem pS_pre {dry : Bool} {w : List Nat} {m : Nat} : ∀ k s, s.1 <+: (pS dry w m k s).1
  | 0, s => List.prefix_rfl
  | k + 1, s => by
    refine (pS_pre (dry := dry) (w := w) (m := m) k s).trans ?_
    show _ <+: (pst dry _ _).1
    unfold pst
    cases dry
    · exact addP_pre _ _
    · exact List.prefix_rfl
theorem pA_pre {dry : Bool} {w : List Nat} : ∀ m s, s.1 <+: (pA dry w m s).1
  | 0, s => List.prefix_rfl
  | m + 1, s => (pA_pre m s).trans (pS_pre _ _)
theorem qS_pre {dry : Bool} {w : List Nat} {b : Nat} : ∀ k s, s.1 <+: (qS dry w b k s).1
  | 0, s => List.prefix_rfl
  | k + 1, s => by
    refine (qS_pre (dry := dry) (w := w) (b := b) k s).trans ?_
    show _ <+: (qst dry _ _).1
    unfold qst
    cases dry
    · exact addC_pre _ _
    · exact List.prefix_rfl
theorem qA_pre {dry : Bool} {w : List Nat} : ∀ m s, s.1 <+: (qA dry w m s).1
  | 0, s => List.prefix_rfl
  | m + 1, s => (qA_pre m s).trans (qS_pre _ _)
theorem LR_ok (hP : POK P) (hC : COK C) (hc1 : 1 ≤ C.length) {s v : Nat} (h1 : 1 ≤ s) (h6 : s ≤ 6) (hv : v < (sgl B).length ^ s) {P' : List (List Nat)} {C' : CL} {x y z : Int32} (a : LR B P C s v P' C' x y z) : POK P' ∧ COK C' ∧ P <+: P' ∧ C <+: C' := by
  have hp : 0 < (sgl B).length := Nat.pos_of_ne_zero (fun q => by rw [q, Nat.zero_pow (by omega)] at hv; omega)
  have wl := wN_len (sgl B) s v
  have wo := wN_ok (sl := sgl B) (fun s hs => sgl_lt hs) hp s v
  rcases a with ⟨_, a2, a3, _⟩ | ⟨_, a2, R, S, a3, a4, _⟩
  · rw [a2, a3]
    exact ⟨pA_ok wo (by omega) _ (P, 0) (Nat.le_refl _) hP, qA_ok wo (by omega) _ (C, 0) (Nat.le_refl _) hC, pA_pre _ (P, 0), qA_pre _ (C, 0)⟩
  · obtain ⟨_, b1, b2, b3⟩ := RF_b hC.1 s 0 0 s (by omega) (by omega) a3
    rw [a2, a4]
    exact ⟨addP_ok (addP_ok hP (sb_ok6 wo (by omega) b1 (by omega))) (sb_ok6 wo (by omega) b2 b3), hC, (addP_pre _ _).trans (addP_pre _ _), List.prefix_rfl⟩
theorem LR_ex (hC : COK C) (hS : PSG B P C) {l s v : Nat} (a : isF B P C l s v) : ∃ P' C' x y z, LR B P C s v P' C' x y z := by
  have df : dfB B P C s v = true := by
    have := a.2.2.2.1
    unfold gdB at this
    rw [Bool.and_eq_true] at this
    exact this.1
  cases ht : derB B (wN (sgl B) s v) 0 with
  | true => exact ⟨_, _, _, _, _, Or.inl ⟨ht, rfl, rfl, rfl, rfl, rfl⟩⟩
  | false =>
    obtain ⟨R, S, q, _⟩ := (wrong_RF hC hS a.1 df ht).2
    exact ⟨_, _, _, _, _, Or.inr ⟨ht, rfl, R, S, q, rfl, rfl, rfl, rfl⟩⟩
theorem pre_get {P P' : List (List Nat)} (h : P <+: P') {i : Nat} (hi : i < P.length) : gA P' i = gA P i := by
  obtain ⟨t, e⟩ := h
  subst e
  unfold gA
  rw [List.getD_eq_getElem?_getD, List.getD_eq_getElem?_getD, List.getElem?_append_left hi]
theorem pre_getC {C C' : CL} (h : C <+: C') {i : Nat} (hi : i < C.length) : gC C' i = gC C i := by
  obtain ⟨t, e⟩ := h
  subst e
  unfold gC
  rw [List.getD_eq_getElem?_getD, List.getD_eq_getElem?_getD, List.getElem?_append_left hi]
theorem PSG_pre {P P' : List (List Nat)} {C C' : CL} (hp : P <+: P') (hc : C <+: C') (hS : PSG B P C) : PSG B P' C' := by
  obtain ⟨a1, a2, a3, a4⟩ := hS
  have l1 := hp.length_le
  have l2 := hc.length_le
  exact ⟨by omega, fun i hi => by rw [pre_get hp (by omega)]; exact a2 i hi, by omega, by rw [pre_getC hc (by omega)]; exact a4⟩
theorem AIN_pre {P P' : List (List Nat)} {C C' : CL} {A : List (List Nat)} (hp : P <+: P') (hc : C <+: C') (h : AIN P C A) : AIN P' C' A := by
  have l1 := hp.length_le
  have l2 := hc.length_le
  refine ⟨h.1, fun u hu => ?_⟩
  have := h.2 u hu
  unfold TWL at this
  rw [List.mem_flatMap] at this
  obtain ⟨x, hx, m⟩ := this
  rw [List.mem_range] at hx
  rcases List.mem_append.mp m with m | m
  · obtain ⟨p, q1, q2⟩ := List.mem_map.mp m
    rw [List.mem_range] at q1
    have := TWL_1 (P := P') (C := C') (x := x) (p := p) (by omega) (by omega)
    unfold w1 at this q2
    rw [pre_getC hc hx, pre_get hp q1, q2] at this
    exact this
  · obtain ⟨p, q1, m⟩ := List.mem_flatMap.mp m
    obtain ⟨q, q2, q3⟩ := List.mem_map.mp m
    rw [List.mem_range] at q1 q2
    have := TWL_2 (P := P') (C := C') (x := x) (p := p) (q := q) (by omega) (by omega) (by omega)
    unfold w2 at this q3
    rw [pre_getC hc hx, pre_get hp q1, pre_get hp q2, q3] at this
    exact this
end RF

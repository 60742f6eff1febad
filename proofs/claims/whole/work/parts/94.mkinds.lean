/-! the reference's kinds -/
def SVk (B : GB) (P : List (List Nat)) (C : CL) (sv : Nat → Nat) : Prop := ∀ x, x < C.length → (sv x = 1000000 ∨ Len B P C x (sv x)) ∧ ((sgA B P C).testBit x = true → sv x = 1)
def cl2 (B : GB) (P : List (List Nat)) (C : CL) (sv : Nat → Nat) (y z : Nat) : Prop := ∀ x, R2 B P C x y z = true → sv y < 1000000 → sv z < 1000000 → sv y + sv z ≤ 20 → sv x ≤ sv y + sv z
theorem sumf_lt {f g : Nat → Nat} : ∀ k, (∀ i, i < k → f i ≤ g i) → (∃ i, i < k ∧ f i < g i) → sumf f k < sumf g k
  | 0, _, ⟨i, hi, _⟩ => by omega
  | k + 1, h, ⟨i, hi, hl⟩ => by
    rw [sumf, sumf]
    have h2 := h k (by omega)
    by_cases e : i = k
    · subst e
      have : sumf f i ≤ sumf g i := by
        have : ∀ n, n ≤ i → sumf f n ≤ sumf g n := by
          intro n
          induction n with
          | zero => intro _; exact Nat.le_refl _
          | succ n ihn => intro hn; rw [sumf, sumf]; have := ihn (by omega); have := h n (by omega); omega
        exact this i (Nat.le_refl _)
      omega
    · have := sumf_lt k (fun j hj => h j (by omega)) ⟨i, by omega, hl⟩
      omega
theorem sumf_mono {f g : Nat → Nat} : ∀ k, (∀ i, i < k → f i ≤ g i) → sumf f k ≤ sumf g k
  | 0, _ => Nat.le_refl _
  | k + 1, h => by
    rw [sumf, sumf]
    have := sumf_mono k (fun i hi => h i (by omega))
    have := h k (by omega)
    omega
noncomputable def shR (B : GB) (P : List (List Nat)) (C : CL) (x : Nat) : Nat := if shl B P C x < 21 then shl B P C x else 1000000
theorem SVk_fin {B : GB} {P : List (List Nat)} {C : CL} {sv : Nat → Nat} (h : SVk B P C sv) (hc : ∀ y z, y < C.length → z < C.length → cl2 B P C sv y z) {x : Nat} (hx : x < C.length) : sv x = shR B P C x := by
  have key : ∀ x n, Len B P C x n → sv x ≤ n := by
    intro x n hl
    refine hl (fun x n => sv x ≤ n) ⟨fun x hs => ?_, fun x y z a b hr hy hz hab => ?_⟩
    · show sv x ≤ 1
      rw [(h x (sgA_nc hs)).2 hs]; exact Nat.le_refl _
    · have hR := R2_iff.mp hr
      have hy : sv y ≤ a := hy
      have hz : sv z ≤ b := hz
      show sv x ≤ a + b
      have := hc y z hR.2.1 hR.2.2.1 x hr (by omega) (by omega) (by omega)
      omega
  unfold shR
  rcases (h x hx).1 with e | e
  · rw [if_neg, e]
    intro q
    have := key x _ (shl_yes q)
    omega
  · have h1 := shl_min e
    have h2 := (Len_rng e).2.1
    rw [if_pos (by omega)]
    have := key x _ (shl_yes (B := B) (P := P) (C := C) (x := x) (by omega))
    omega
section RF
variable {r : Nat} {h : KH} {Q : KO → KH → Prop} {B : GB} {P : List (List Nat)} {C : CL}
theorem SVk_le {sv : Nat → Nat} (S : SVk B P C sv) {x : Nat} (hx : x < C.length) : sv x ≤ 1000000 := by
  rcases (S x hx).1 with e | e
  · omega
  · have := (Len_rng e).2.1; omega
theorem c_shortens {sv : Nat → Nat} {y z : Nat} (hr : 3 ≤ r) (w : kW h) (M : MR h B P C) (hc : kI h 66 31 = nI C.length) (hC : COK C) (S : SVk B P C sv) (K : ∀ x, x < C.length → kI h 102 x = nI (sv x)) (hy : y < C.length) (hz : z < C.length)
    (H : ∀ h' (b : Bool) sv', FM [] [102] [] h h' → SVk B P C sv' → (∀ x, x < C.length → kI h' 102 x = nI (sv' x)) → (∀ x, x < C.length → sv' x ≤ sv x) → (b = true → ∃ x, x < C.length ∧ sv' x < sv x) → (b = false → (∀ x, x < C.length → sv' x = sv x) ∧ cl2 B P C sv y z) → Q (.inl (some (.int (nI b.toNat)))) h') : kCalls r yX12_shortens [.ref 66, .int (nI y), .int (nI z)] h Q := by
  have r2 : 2 ≤ r := by omega
  have w0 := w
  have h12 := hC.1
  have ky := K y hy
  have kz := K z hz
  have ly := SVk_le S hy
  have lz := SVk_le S hz
  have out : ∀ (b : Bool) h' sv', FM [] [102] [] h h' → SVk B P C sv' → (∀ x, x < C.length → kI h' 102 x = nI (sv' x)) → (∀ x, x < C.length → sv' x ≤ sv x) → (b = true → ∃ x, x < C.length ∧ sv' x < sv x) → (b = false → (∀ x, x < C.length → sv' x = sv x) ∧ cl2 B P C sv y z) → ∀ e4 e5 : Option Value, kRun r mX12_shortens 100 [some (.ref 66), some (.int (nI y)), some (.int (nI z)), some (.int (nI b.toNat)), e4, e5] [] h' Q := by
    intro b h' sv' a1 a2 a3 a4 a5 a6 e4 e5
    refine eX12_shortens_100 ?_
    simp only [ks_nop, ks_aload_0, ks_iload_1, ks_iload_2, ks_iload_3, ks_iload, ks_istore_3, ks_istore, ks_iconst, ks_bipush, ks_ldc_w, ks_iinc, ks_iadd, ks_if_eq, ks_icmp_ge, ks_icmp_gt, ks_goto, ks_get0, ks_get3, ks_get1, ks_get2, ks_iald, ks_sld, ks_iast, ks_inv0, ks_inv1, ks_inv2, ks_inv4, ks_inv3, ks_inv5, ks_inv6, ks_inv7, ks_inv8, ks_iret1, kldi_0, kldl_0, klda_0, kldz_0, kst1_0, kst2_0, kldi_1, kldl_1, klda_1, kldz_1, kst1_1n, kst2_1n, kst1_1i, kst2_1i, kst1_1r, kst2_1r, kst1_1z, kst2_1z, kst1_1l, kst2_1l, kldi_2, kldl_2, klda_2, kldz_2, kst1_2n, kst2_2n, kst1_2i, kst2_2i, kst1_2r, kst2_2r, kst1_2z, kst2_2z, kst1_2l, kst2_2l, kldi_3, kldl_3, klda_3, kldz_3, kst1_3n, kst2_3n, kst1_3i, kst2_3i, kst1_3r, kst2_3r, kst1_3z, kst2_3z, kst1_3l, kst2_3l, kldi_4, kldl_4, klda_4, kldz_4, kst1_4n, kst2_4n, kst1_4i, kst2_4i, kst1_4r, kst2_4r, kst1_4z, kst2_4z, kst1_4l, kst2_4l, kldi_5, kldl_5, klda_5, kldz_5, kst1_5n, kst2_5n, kst1_5i, kst2_5i, kst1_5r, kst2_5r, kst1_5z, kst2_5z, kst1_5l, kst2_5l, kpr_r, kcat_n, kcat_i, kcat_r, kcat_z, kcat_l, kargs_0, kargs_s, kret_v, kret_n, kret_x, zl_20, zl_1000000, jX12_shortens_0, bX12_shortens_0, jX12_shortens_20, bX12_shortens_20, jX12_shortens_94, bX12_shortens_94, jX12_shortens_100, bX12_shortens_100, Nat.reduceAdd, Nat.reduceLeDiff, Nat.reduceEqDiff, Nat.reduceSub, Nat.zero_le, Nat.add_left_cancel_iff, true_and, and_true, if_true, if_false, reduceIte, ne_eq, not_false_eq_true, Nat.add_eq_left, Nat.left_eq_add, kI_sI, kL_sI, kR_sI, kK_sI, kI_sL, kL_sL, kR_sL, kK_sL, kI_sIA, kL_sIA, kR_sIA, kK_sIA, kI_sLA, kL_sLA, kR_sLA, kK_sLA]
    try simp (disch := omega) only [a_0, a_1, a_L0, a_L1, a_lt, a_le, a_eq, a_sub, a_addn, nI_add, pk_mul, a_in, nI_clamp, a_eqn, a_eqn', a_eqn2, a_n12, eq_self, a_ltn, a_ltn', a_len, a_len', a_shl1, z_shr, fa_and, fa_or, a_tb, a_tb0, a_b0, a_b1, a_bi, a_lc0, a_lcle, a_lcge, a_lclt, a_lcgt, upd_at, upd_ne, updL_at, updL_ne, Nat.reduceAdd, Nat.reduceSub, Nat.reduceMul, Nat.reduceLT, Nat.reduceLeDiff, Nat.reduceEqDiff, true_and, and_true, if_true, if_false, reduceIte, ne_eq, not_false_eq_true, not_true_eq_false, true_implies, false_implies, Nat.not_lt, Nat.not_le, Nat.le_refl, Nat.add_sub_cancel, Nat.lt_irrefl, Nat.not_lt_zero, Nat.zero_le, Nat.testBit_shiftRight, Nat.add_zero, reduceCtorEq, true_or, or_true, or_false, false_or, Bool.true_eq_false, Bool.false_eq_true, Bool.not_eq_false, Bool.not_eq_true, Decidable.not_not]
    repeat (first | refine ⟨fun _ => ?_, fun c => absurd c (by omega)⟩ | refine ⟨fun c => absurd c (by omega), fun _ => ?_⟩)
    refine ⟨?_, H h' b sv' a1 a2 a3 a4 a5 a6⟩
    cases b <;> decide
  have loop : ∀ x, x ≤ C.length → ∀ h' (b : Bool) sv', FM [] [102] [] h h' → SVk B P C sv' → (∀ x, x < C.length → kI h' 102 x = nI (sv' x)) → (∀ x, x < C.length → sv' x ≤ sv x) → (b = true → ∃ x, x < C.length ∧ sv' x < sv x) → (b = false → (∀ x, x < C.length → sv' x = sv x) ∧ ∀ k, k < x → R2 B P C k y z = true → sv y < 1000000 → sv z < 1000000 → sv y + sv z ≤ 20 → sv k ≤ sv y + sv z) → (b = true → sv y < 1000000 ∧ sv z < 1000000) → kRun r mX12_shortens 20 [some (.ref 66), some (.int (nI y)), some (.int (nI z)), some (.int (nI b.toNat)), some (.int (nI (sv y + sv z))), some (.int (nI x))] [] h' Q := by
    refine up_ind ?_ (fun x hx ih => ?_)
    · intro h' b sv' a1 a2 a3 a4 a5 a6 a7
      have w := FM_W a1 w0
      have hc' : kI h' 66 31 = nI C.length := by rw [a1.2 31 (by simp)]; exact hc
      refine eX12_shortens_20 ?_
      simp only [ks_nop, ks_aload_0, ks_iload_1, ks_iload_2, ks_iload_3, ks_iload, ks_istore_3, ks_istore, ks_iconst, ks_bipush, ks_ldc_w, ks_iinc, ks_iadd, ks_if_eq, ks_icmp_ge, ks_icmp_gt, ks_goto, ks_get0, ks_get3, ks_get1, ks_get2, ks_iald, ks_sld, ks_iast, ks_inv0, ks_inv1, ks_inv2, ks_inv4, ks_inv3, ks_inv5, ks_inv6, ks_inv7, ks_inv8, ks_iret1, kldi_0, kldl_0, klda_0, kldz_0, kst1_0, kst2_0, kldi_1, kldl_1, klda_1, kldz_1, kst1_1n, kst2_1n, kst1_1i, kst2_1i, kst1_1r, kst2_1r, kst1_1z, kst2_1z, kst1_1l, kst2_1l, kldi_2, kldl_2, klda_2, kldz_2, kst1_2n, kst2_2n, kst1_2i, kst2_2i, kst1_2r, kst2_2r, kst1_2z, kst2_2z, kst1_2l, kst2_2l, kldi_3, kldl_3, klda_3, kldz_3, kst1_3n, kst2_3n, kst1_3i, kst2_3i, kst1_3r, kst2_3r, kst1_3z, kst2_3z, kst1_3l, kst2_3l, kldi_4, kldl_4, klda_4, kldz_4, kst1_4n, kst2_4n, kst1_4i, kst2_4i, kst1_4r, kst2_4r, kst1_4z, kst2_4z, kst1_4l, kst2_4l, kldi_5, kldl_5, klda_5, kldz_5, kst1_5n, kst2_5n, kst1_5i, kst2_5i, kst1_5r, kst2_5r, kst1_5z, kst2_5z, kst1_5l, kst2_5l, kpr_r, kcat_n, kcat_i, kcat_r, kcat_z, kcat_l, kargs_0, kargs_s, kret_v, kret_n, kret_x, zl_20, zl_1000000, jX12_shortens_0, bX12_shortens_0, jX12_shortens_20, bX12_shortens_20, jX12_shortens_94, bX12_shortens_94, jX12_shortens_100, bX12_shortens_100, Nat.reduceAdd, Nat.reduceLeDiff, Nat.reduceEqDiff, Nat.reduceSub, Nat.zero_le, Nat.add_left_cancel_iff, true_and, and_true, if_true, if_false, reduceIte, ne_eq, not_false_eq_true, Nat.add_eq_left, Nat.left_eq_add, kI_sI, kL_sI, kR_sI, kK_sI, kI_sL, kL_sL, kR_sL, kK_sL, kI_sIA, kL_sIA, kR_sIA, kK_sIA, kI_sLA, kL_sLA, kR_sLA, kK_sLA, wK_66 w, wR_66_3 w, wR_66_4 w, wR_66_5 w, wR_66_7 w, wR_66_10 w, wR_66_11 w, wR_66_12 w, wR_66_13 w, wR_66_14 w, wR_66_20 w, wR_66_22 w, wR_66_23 w, wR_66_24 w, wR_66_25 w, wR_66_26 w, wR_66_29 w, wR_66_30 w, wR_66_32 w, wR_66_33 w, wR_66_34 w, wR_66_38 w, wR_66_39 w, wR_66_40 w, wR_66_41 w, wR_66_42 w, wR_66_43 w, wR_66_44 w, wR_66_51 w, wR_66_55 w, wR_66_59 w, wR_66_60 w, wR_66_61 w, wR_66_66 w, wR_66_70 w, wR_66_74 w, wR_66_77 w, wR_66_81 w, wR_66_83 w, wK_67 w, wK_68 w, wK_69 w, wK_70 w, wK_71 w, wK_72 w, wK_73 w, wK_74 w, wK_75 w, wK_76 w, wK_77 w, wK_78 w, wK_79 w, wK_80 w, wK_81 w, wK_82 w, wK_83 w, wK_84 w, wK_85 w, wK_86 w, wK_87 w, wK_88 w, wK_89 w, wK_90 w, wK_91 w, wK_92 w, wK_93 w, wK_94 w, wK_95 w, wK_96 w, wK_97 w, wK_98 w, wK_99 w, wK_100 w, wK_101 w, wK_102 w, wK_103 w, wK_104 w, hc']
      try simp (disch := omega) only [a_0, a_1, a_L0, a_L1, a_lt, a_le, a_eq, a_sub, a_addn, nI_add, pk_mul, a_in, nI_clamp, a_eqn, a_eqn', a_eqn2, a_n12, eq_self, a_ltn, a_ltn', a_len, a_len', a_shl1, z_shr, fa_and, fa_or, a_tb, a_tb0, a_b0, a_b1, a_bi, a_lc0, a_lcle, a_lcge, a_lclt, a_lcgt, upd_at, upd_ne, updL_at, updL_ne, Nat.reduceAdd, Nat.reduceSub, Nat.reduceMul, Nat.reduceLT, Nat.reduceLeDiff, Nat.reduceEqDiff, true_and, and_true, if_true, if_false, reduceIte, ne_eq, not_false_eq_true, not_true_eq_false, true_implies, false_implies, Nat.not_lt, Nat.not_le, Nat.le_refl, Nat.add_sub_cancel, Nat.lt_irrefl, Nat.not_lt_zero, Nat.zero_le, Nat.testBit_shiftRight, Nat.add_zero, reduceCtorEq, true_or, or_true, or_false, false_or, Bool.true_eq_false, Bool.false_eq_true, Bool.not_eq_false, Bool.not_eq_true, Decidable.not_not, wK_66 w, wR_66_3 w, wR_66_4 w, wR_66_5 w, wR_66_7 w, wR_66_10 w, wR_66_11 w, wR_66_12 w, wR_66_13 w, wR_66_14 w, wR_66_20 w, wR_66_22 w, wR_66_23 w, wR_66_24 w, wR_66_25 w, wR_66_26 w, wR_66_29 w, wR_66_30 w, wR_66_32 w, wR_66_33 w, wR_66_34 w, wR_66_38 w, wR_66_39 w, wR_66_40 w, wR_66_41 w, wR_66_42 w, wR_66_43 w, wR_66_44 w, wR_66_51 w, wR_66_55 w, wR_66_59 w, wR_66_60 w, wR_66_61 w, wR_66_66 w, wR_66_70 w, wR_66_74 w, wR_66_77 w, wR_66_81 w, wR_66_83 w, wK_67 w, wK_68 w, wK_69 w, wK_70 w, wK_71 w, wK_72 w, wK_73 w, wK_74 w, wK_75 w, wK_76 w, wK_77 w, wK_78 w, wK_79 w, wK_80 w, wK_81 w, wK_82 w, wK_83 w, wK_84 w, wK_85 w, wK_86 w, wK_87 w, wK_88 w, wK_89 w, wK_90 w, wK_91 w, wK_92 w, wK_93 w, wK_94 w, wK_95 w, wK_96 w, wK_97 w, wK_98 w, wK_99 w, wK_100 w, wK_101 w, wK_102 w, wK_103 w, wK_104 w, hc']
      repeat (first | refine ⟨fun _ => ?_, fun c => absurd c (by omega)⟩ | refine ⟨fun c => absurd c (by omega), fun _ => ?_⟩)
      refine out b h' sv' a1 a2 a3 a4 a5 (fun q => ⟨(a6 q).1, fun k hr' h1 h2 h3 => ?_⟩) _ _
      exact (a6 q).2 k (R2_iff.mp hr').1 hr' h1 h2 h3
    · intro h' b sv' a1 a2 a3 a4 a5 a6 a7
      have w := FM_W a1 w0
      have hc' : kI h' 66 31 = nI C.length := by rw [a1.2 31 (by simp)]; exact hc
      have M' := MR_fm a1 (by simp) (by simp) M
      have ky' := a3 y hy
      have kz' := a3 z hz
      have kx' := a3 x hx
      have ly' := SVk_le a2 hy
      have lz' := SVk_le a2 hz
      have lx' := SVk_le a2 hx
      have lx := a4 x hx
      have lyy := a4 y hy
      have lzz := a4 z hz
      have early : (sv' y ≥ 1000000 ∨ sv' z ≥ 1000000) → ∀ e4 e5 : Option Value, kRun r mX12_shortens 100 [some (.ref 66), some (.int (nI y)), some (.int (nI z)), some (.int (nI b.toNat)), e4, e5] [] h' Q := by
        intro q e4 e5
        refine out b h' sv' a1 a2 a3 a4 a5 (fun z1 => ⟨(a6 z1).1, fun k hr' h1 h2 h3 => ?_⟩) _ _
        omega
      have nx : ∀ h2 (b2 : Bool) sv2, FM [] [102] [] h h2 → SVk B P C sv2 → (∀ x, x < C.length → kI h2 102 x = nI (sv2 x)) → (∀ x, x < C.length → sv2 x ≤ sv x) → (b2 = true → ∃ x, x < C.length ∧ sv2 x < sv x) → (b2 = false → (∀ x, x < C.length → sv2 x = sv x) ∧ ∀ k, k < x + 1 → R2 B P C k y z = true → sv y < 1000000 → sv z < 1000000 → sv y + sv z ≤ 20 → sv k ≤ sv y + sv z) → (sv y < 1000000 ∧ sv z < 1000000) → kRun r mX12_shortens 94 [some (.ref 66), some (.int (nI y)), some (.int (nI z)), some (.int (nI b2.toNat)), some (.int (nI (sv y + sv z))), some (.int (nI x))] [] h2 Q := by
        intro h2 b2 sv2 c1 c2 c3 c4 c5 c6 c7
        refine eX12_shortens_94 ?_
        simp only [ks_nop, ks_aload_0, ks_iload_1, ks_iload_2, ks_iload_3, ks_iload, ks_istore_3, ks_istore, ks_iconst, ks_bipush, ks_ldc_w, ks_iinc, ks_iadd, ks_if_eq, ks_icmp_ge, ks_icmp_gt, ks_goto, ks_get0, ks_get3, ks_get1, ks_get2, ks_iald, ks_sld, ks_iast, ks_inv0, ks_inv1, ks_inv2, ks_inv4, ks_inv3, ks_inv5, ks_inv6, ks_inv7, ks_inv8, ks_iret1, kldi_0, kldl_0, klda_0, kldz_0, kst1_0, kst2_0, kldi_1, kldl_1, klda_1, kldz_1, kst1_1n, kst2_1n, kst1_1i, kst2_1i, kst1_1r, kst2_1r, kst1_1z, kst2_1z, kst1_1l, kst2_1l, kldi_2, kldl_2, klda_2, kldz_2, kst1_2n, kst2_2n, kst1_2i, kst2_2i, kst1_2r, kst2_2r, kst1_2z, kst2_2z, kst1_2l, kst2_2l, kldi_3, kldl_3, klda_3, kldz_3, kst1_3n, kst2_3n, kst1_3i, kst2_3i, kst1_3r, kst2_3r, kst1_3z, kst2_3z, kst1_3l, kst2_3l, kldi_4, kldl_4, klda_4, kldz_4, kst1_4n, kst2_4n, kst1_4i, kst2_4i, kst1_4r, kst2_4r, kst1_4z, kst2_4z, kst1_4l, kst2_4l, kldi_5, kldl_5, klda_5, kldz_5, kst1_5n, kst2_5n, kst1_5i, kst2_5i, kst1_5r, kst2_5r, kst1_5z, kst2_5z, kst1_5l, kst2_5l, kpr_r, kcat_n, kcat_i, kcat_r, kcat_z, kcat_l, kargs_0, kargs_s, kret_v, kret_n, kret_x, zl_20, zl_1000000, jX12_shortens_0, bX12_shortens_0, jX12_shortens_20, bX12_shortens_20, jX12_shortens_94, bX12_shortens_94, jX12_shortens_100, bX12_shortens_100, Nat.reduceAdd, Nat.reduceLeDiff, Nat.reduceEqDiff, Nat.reduceSub, Nat.zero_le, Nat.add_left_cancel_iff, true_and, and_true, if_true, if_false, reduceIte, ne_eq, not_false_eq_true, Nat.add_eq_left, Nat.left_eq_add, kI_sI, kL_sI, kR_sI, kK_sI, kI_sL, kL_sL, kR_sL, kK_sL, kI_sIA, kL_sIA, kR_sIA, kK_sIA, kI_sLA, kL_sLA, kR_sLA, kK_sLA]
        try simp (disch := omega) only [a_0, a_1, a_L0, a_L1, a_lt, a_le, a_eq, a_sub, a_addn, nI_add, pk_mul, a_in, nI_clamp, a_eqn, a_eqn', a_eqn2, a_n12, eq_self, a_ltn, a_ltn', a_len, a_len', a_shl1, z_shr, fa_and, fa_or, a_tb, a_tb0, a_b0, a_b1, a_bi, a_lc0, a_lcle, a_lcge, a_lclt, a_lcgt, upd_at, upd_ne, updL_at, updL_ne, Nat.reduceAdd, Nat.reduceSub, Nat.reduceMul, Nat.reduceLT, Nat.reduceLeDiff, Nat.reduceEqDiff, true_and, and_true, if_true, if_false, reduceIte, ne_eq, not_false_eq_true, not_true_eq_false, true_implies, false_implies, Nat.not_lt, Nat.not_le, Nat.le_refl, Nat.add_sub_cancel, Nat.lt_irrefl, Nat.not_lt_zero, Nat.zero_le, Nat.testBit_shiftRight, Nat.add_zero, reduceCtorEq, true_or, or_true, or_false, false_or, Bool.true_eq_false, Bool.false_eq_true, Bool.not_eq_false, Bool.not_eq_true, Decidable.not_not]
        repeat (first | refine ⟨fun _ => ?_, fun c => absurd c (by omega)⟩ | refine ⟨fun c => absurd c (by omega), fun _ => ?_⟩)
        exact ih h2 b2 sv2 c1 c2 c3 c4 c5 c6 (fun _ => c7)
      have far : sv' y < 1000000 → sv' z < 1000000 → sv y < 1000000 ∧ sv z < 1000000 := by
        intro q1 q2
        cases hb : b with
        | false =>
          have := (a6 hb).1
          rw [← this y hy, ← this z hz]; exact ⟨q1, q2⟩
        | true => exact a7 hb
      refine eX12_shortens_20 ?_
      simp only [ks_nop, ks_aload_0, ks_iload_1, ks_iload_2, ks_iload_3, ks_iload, ks_istore_3, ks_istore, ks_iconst, ks_bipush, ks_ldc_w, ks_iinc, ks_iadd, ks_if_eq, ks_icmp_ge, ks_icmp_gt, ks_goto, ks_get0, ks_get3, ks_get1, ks_get2, ks_iald, ks_sld, ks_iast, ks_inv0, ks_inv1, ks_inv2, ks_inv4, ks_inv3, ks_inv5, ks_inv6, ks_inv7, ks_inv8, ks_iret1, kldi_0, kldl_0, klda_0, kldz_0, kst1_0, kst2_0, kldi_1, kldl_1, klda_1, kldz_1, kst1_1n, kst2_1n, kst1_1i, kst2_1i, kst1_1r, kst2_1r, kst1_1z, kst2_1z, kst1_1l, kst2_1l, kldi_2, kldl_2, klda_2, kldz_2, kst1_2n, kst2_2n, kst1_2i, kst2_2i, kst1_2r, kst2_2r, kst1_2z, kst2_2z, kst1_2l, kst2_2l, kldi_3, kldl_3, klda_3, kldz_3, kst1_3n, kst2_3n, kst1_3i, kst2_3i, kst1_3r, kst2_3r, kst1_3z, kst2_3z, kst1_3l, kst2_3l, kldi_4, kldl_4, klda_4, kldz_4, kst1_4n, kst2_4n, kst1_4i, kst2_4i, kst1_4r, kst2_4r, kst1_4z, kst2_4z, kst1_4l, kst2_4l, kldi_5, kldl_5, klda_5, kldz_5, kst1_5n, kst2_5n, kst1_5i, kst2_5i, kst1_5r, kst2_5r, kst1_5z, kst2_5z, kst1_5l, kst2_5l, kpr_r, kcat_n, kcat_i, kcat_r, kcat_z, kcat_l, kargs_0, kargs_s, kret_v, kret_n, kret_x, zl_20, zl_1000000, jX12_shortens_0, bX12_shortens_0, jX12_shortens_20, bX12_shortens_20, jX12_shortens_94, bX12_shortens_94, jX12_shortens_100, bX12_shortens_100, Nat.reduceAdd, Nat.reduceLeDiff, Nat.reduceEqDiff, Nat.reduceSub, Nat.zero_le, Nat.add_left_cancel_iff, true_and, and_true, if_true, if_false, reduceIte, ne_eq, not_false_eq_true, Nat.add_eq_left, Nat.left_eq_add, kI_sI, kL_sI, kR_sI, kK_sI, kI_sL, kL_sL, kR_sL, kK_sL, kI_sIA, kL_sIA, kR_sIA, kK_sIA, kI_sLA, kL_sLA, kR_sLA, kK_sLA, wK_66 w, wR_66_3 w, wR_66_4 w, wR_66_5 w, wR_66_7 w, wR_66_10 w, wR_66_11 w, wR_66_12 w, wR_66_13 w, wR_66_14 w, wR_66_20 w, wR_66_22 w, wR_66_23 w, wR_66_24 w, wR_66_25 w, wR_66_26 w, wR_66_29 w, wR_66_30 w, wR_66_32 w, wR_66_33 w, wR_66_34 w, wR_66_38 w, wR_66_39 w, wR_66_40 w, wR_66_41 w, wR_66_42 w, wR_66_43 w, wR_66_44 w, wR_66_51 w, wR_66_55 w, wR_66_59 w, wR_66_60 w, wR_66_61 w, wR_66_66 w, wR_66_70 w, wR_66_74 w, wR_66_77 w, wR_66_81 w, wR_66_83 w, wK_67 w, wK_68 w, wK_69 w, wK_70 w, wK_71 w, wK_72 w, wK_73 w, wK_74 w, wK_75 w, wK_76 w, wK_77 w, wK_78 w, wK_79 w, wK_80 w, wK_81 w, wK_82 w, wK_83 w, wK_84 w, wK_85 w, wK_86 w, wK_87 w, wK_88 w, wK_89 w, wK_90 w, wK_91 w, wK_92 w, wK_93 w, wK_94 w, wK_95 w, wK_96 w, wK_97 w, wK_98 w, wK_99 w, wK_100 w, wK_101 w, wK_102 w, wK_103 w, wK_104 w, hc', ky', kz', r2]
      try simp (disch := omega) only [a_0, a_1, a_L0, a_L1, a_lt, a_le, a_eq, a_sub, a_addn, nI_add, pk_mul, a_in, nI_clamp, a_eqn, a_eqn', a_eqn2, a_n12, eq_self, a_ltn, a_ltn', a_len, a_len', a_shl1, z_shr, fa_and, fa_or, a_tb, a_tb0, a_b0, a_b1, a_bi, a_lc0, a_lcle, a_lcge, a_lclt, a_lcgt, upd_at, upd_ne, updL_at, updL_ne, Nat.reduceAdd, Nat.reduceSub, Nat.reduceMul, Nat.reduceLT, Nat.reduceLeDiff, Nat.reduceEqDiff, true_and, and_true, if_true, if_false, reduceIte, ne_eq, not_false_eq_true, not_true_eq_false, true_implies, false_implies, Nat.not_lt, Nat.not_le, Nat.le_refl, Nat.add_sub_cancel, Nat.lt_irrefl, Nat.not_lt_zero, Nat.zero_le, Nat.testBit_shiftRight, Nat.add_zero, reduceCtorEq, true_or, or_true, or_false, false_or, Bool.true_eq_false, Bool.false_eq_true, Bool.not_eq_false, Bool.not_eq_true, Decidable.not_not, wK_66 w, wR_66_3 w, wR_66_4 w, wR_66_5 w, wR_66_7 w, wR_66_10 w, wR_66_11 w, wR_66_12 w, wR_66_13 w, wR_66_14 w, wR_66_20 w, wR_66_22 w, wR_66_23 w, wR_66_24 w, wR_66_25 w, wR_66_26 w, wR_66_29 w, wR_66_30 w, wR_66_32 w, wR_66_33 w, wR_66_34 w, wR_66_38 w, wR_66_39 w, wR_66_40 w, wR_66_41 w, wR_66_42 w, wR_66_43 w, wR_66_44 w, wR_66_51 w, wR_66_55 w, wR_66_59 w, wR_66_60 w, wR_66_61 w, wR_66_66 w, wR_66_70 w, wR_66_74 w, wR_66_77 w, wR_66_81 w, wR_66_83 w, wK_67 w, wK_68 w, wK_69 w, wK_70 w, wK_71 w, wK_72 w, wK_73 w, wK_74 w, wK_75 w, wK_76 w, wK_77 w, wK_78 w, wK_79 w, wK_80 w, wK_81 w, wK_82 w, wK_83 w, wK_84 w, wK_85 w, wK_86 w, wK_87 w, wK_88 w, wK_89 w, wK_90 w, wK_91 w, wK_92 w, wK_93 w, wK_94 w, wK_95 w, wK_96 w, wK_97 w, wK_98 w, wK_99 w, wK_100 w, wK_101 w, wK_102 w, wK_103 w, wK_104 w, hc', ky', kz', r2]
      repeat (first | refine ⟨fun _ => ?_, fun c => absurd c (by omega)⟩ | refine ⟨fun c => absurd c (by omega), fun _ => ?_⟩)
      refine ⟨fun c => early (Or.inl c) _ _, fun c => ⟨fun c2 => early (Or.inr c2) _ _, fun c2 => ?_⟩⟩
      refine c_isRule (by omega) w M' hC hx hy hz ?_
      have fr := far c c2
      cases hR : R2 B P C x y z with
      | false =>
        simp only [ks_nop, ks_aload_0, ks_iload_1, ks_iload_2, ks_iload_3, ks_iload, ks_istore_3, ks_istore, ks_iconst, ks_bipush, ks_ldc_w, ks_iinc, ks_iadd, ks_if_eq, ks_icmp_ge, ks_icmp_gt, ks_goto, ks_get0, ks_get3, ks_get1, ks_get2, ks_iald, ks_sld, ks_iast, ks_inv0, ks_inv1, ks_inv2, ks_inv4, ks_inv3, ks_inv5, ks_inv6, ks_inv7, ks_inv8, ks_iret1, kldi_0, kldl_0, klda_0, kldz_0, kst1_0, kst2_0, kldi_1, kldl_1, klda_1, kldz_1, kst1_1n, kst2_1n, kst1_1i, kst2_1i, kst1_1r, kst2_1r, kst1_1z, kst2_1z, kst1_1l, kst2_1l, kldi_2, kldl_2, klda_2, kldz_2, kst1_2n, kst2_2n, kst1_2i, kst2_2i, kst1_2r, kst2_2r, kst1_2z, kst2_2z, kst1_2l, kst2_2l, kldi_3, kldl_3, klda_3, kldz_3, kst1_3n, kst2_3n, kst1_3i, kst2_3i, kst1_3r, kst2_3r, kst1_3z, kst2_3z, kst1_3l, kst2_3l, kldi_4, kldl_4, klda_4, kldz_4, kst1_4n, kst2_4n, kst1_4i, kst2_4i, kst1_4r, kst2_4r, kst1_4z, kst2_4z, kst1_4l, kst2_4l, kldi_5, kldl_5, klda_5, kldz_5, kst1_5n, kst2_5n, kst1_5i, kst2_5i, kst1_5r, kst2_5r, kst1_5z, kst2_5z, kst1_5l, kst2_5l, kpr_r, kcat_n, kcat_i, kcat_r, kcat_z, kcat_l, kargs_0, kargs_s, kret_v, kret_n, kret_x, zl_20, zl_1000000, jX12_shortens_0, bX12_shortens_0, jX12_shortens_20, bX12_shortens_20, jX12_shortens_94, bX12_shortens_94, jX12_shortens_100, bX12_shortens_100, Nat.reduceAdd, Nat.reduceLeDiff, Nat.reduceEqDiff, Nat.reduceSub, Nat.zero_le, Nat.add_left_cancel_iff, true_and, and_true, if_true, if_false, reduceIte, ne_eq, not_false_eq_true, Nat.add_eq_left, Nat.left_eq_add, kI_sI, kL_sI, kR_sI, kK_sI, kI_sL, kL_sL, kR_sL, kK_sL, kI_sIA, kL_sIA, kR_sIA, kK_sIA, kI_sLA, kL_sLA, kR_sLA, kK_sLA]
        try simp (disch := omega) only [a_0, a_1, a_L0, a_L1, a_lt, a_le, a_eq, a_sub, a_addn, nI_add, pk_mul, a_in, nI_clamp, a_eqn, a_eqn', a_eqn2, a_n12, eq_self, a_ltn, a_ltn', a_len, a_len', a_shl1, z_shr, fa_and, fa_or, a_tb, a_tb0, a_b0, a_b1, a_bi, a_lc0, a_lcle, a_lcge, a_lclt, a_lcgt, upd_at, upd_ne, updL_at, updL_ne, Nat.reduceAdd, Nat.reduceSub, Nat.reduceMul, Nat.reduceLT, Nat.reduceLeDiff, Nat.reduceEqDiff, true_and, and_true, if_true, if_false, reduceIte, ne_eq, not_false_eq_true, not_true_eq_false, true_implies, false_implies, Nat.not_lt, Nat.not_le, Nat.le_refl, Nat.add_sub_cancel, Nat.lt_irrefl, Nat.not_lt_zero, Nat.zero_le, Nat.testBit_shiftRight, Nat.add_zero, reduceCtorEq, true_or, or_true, or_false, false_or, Bool.true_eq_false, Bool.false_eq_true, Bool.not_eq_false, Bool.not_eq_true, Decidable.not_not]
        repeat (first | refine ⟨fun _ => ?_, fun c => absurd c (by omega)⟩ | refine ⟨fun c => absurd c (by omega), fun _ => ?_⟩)
        refine nx h' b sv' a1 a2 a3 a4 a5 (fun q => ⟨(a6 q).1, fun k hk hr' h1 h2 h3 => ?_⟩) fr
        by_cases e : k = x
        · rw [e, hR] at hr'; cases hr'
        · exact (a6 q).2 k (by omega) hr' h1 h2 h3
      | true =>
        simp only [ks_nop, ks_aload_0, ks_iload_1, ks_iload_2, ks_iload_3, ks_iload, ks_istore_3, ks_istore, ks_iconst, ks_bipush, ks_ldc_w, ks_iinc, ks_iadd, ks_if_eq, ks_icmp_ge, ks_icmp_gt, ks_goto, ks_get0, ks_get3, ks_get1, ks_get2, ks_iald, ks_sld, ks_iast, ks_inv0, ks_inv1, ks_inv2, ks_inv4, ks_inv3, ks_inv5, ks_inv6, ks_inv7, ks_inv8, ks_iret1, kldi_0, kldl_0, klda_0, kldz_0, kst1_0, kst2_0, kldi_1, kldl_1, klda_1, kldz_1, kst1_1n, kst2_1n, kst1_1i, kst2_1i, kst1_1r, kst2_1r, kst1_1z, kst2_1z, kst1_1l, kst2_1l, kldi_2, kldl_2, klda_2, kldz_2, kst1_2n, kst2_2n, kst1_2i, kst2_2i, kst1_2r, kst2_2r, kst1_2z, kst2_2z, kst1_2l, kst2_2l, kldi_3, kldl_3, klda_3, kldz_3, kst1_3n, kst2_3n, kst1_3i, kst2_3i, kst1_3r, kst2_3r, kst1_3z, kst2_3z, kst1_3l, kst2_3l, kldi_4, kldl_4, klda_4, kldz_4, kst1_4n, kst2_4n, kst1_4i, kst2_4i, kst1_4r, kst2_4r, kst1_4z, kst2_4z, kst1_4l, kst2_4l, kldi_5, kldl_5, klda_5, kldz_5, kst1_5n, kst2_5n, kst1_5i, kst2_5i, kst1_5r, kst2_5r, kst1_5z, kst2_5z, kst1_5l, kst2_5l, kpr_r, kcat_n, kcat_i, kcat_r, kcat_z, kcat_l, kargs_0, kargs_s, kret_v, kret_n, kret_x, zl_20, zl_1000000, jX12_shortens_0, bX12_shortens_0, jX12_shortens_20, bX12_shortens_20, jX12_shortens_94, bX12_shortens_94, jX12_shortens_100, bX12_shortens_100, Nat.reduceAdd, Nat.reduceLeDiff, Nat.reduceEqDiff, Nat.reduceSub, Nat.zero_le, Nat.add_left_cancel_iff, true_and, and_true, if_true, if_false, reduceIte, ne_eq, not_false_eq_true, Nat.add_eq_left, Nat.left_eq_add, kI_sI, kL_sI, kR_sI, kK_sI, kI_sL, kL_sL, kR_sL, kK_sL, kI_sIA, kL_sIA, kR_sIA, kK_sIA, kI_sLA, kL_sLA, kR_sLA, kK_sLA, wK_66 w, wR_66_3 w, wR_66_4 w, wR_66_5 w, wR_66_7 w, wR_66_10 w, wR_66_11 w, wR_66_12 w, wR_66_13 w, wR_66_14 w, wR_66_20 w, wR_66_22 w, wR_66_23 w, wR_66_24 w, wR_66_25 w, wR_66_26 w, wR_66_29 w, wR_66_30 w, wR_66_32 w, wR_66_33 w, wR_66_34 w, wR_66_38 w, wR_66_39 w, wR_66_40 w, wR_66_41 w, wR_66_42 w, wR_66_43 w, wR_66_44 w, wR_66_51 w, wR_66_55 w, wR_66_59 w, wR_66_60 w, wR_66_61 w, wR_66_66 w, wR_66_70 w, wR_66_74 w, wR_66_77 w, wR_66_81 w, wR_66_83 w, wK_67 w, wK_68 w, wK_69 w, wK_70 w, wK_71 w, wK_72 w, wK_73 w, wK_74 w, wK_75 w, wK_76 w, wK_77 w, wK_78 w, wK_79 w, wK_80 w, wK_81 w, wK_82 w, wK_83 w, wK_84 w, wK_85 w, wK_86 w, wK_87 w, wK_88 w, wK_89 w, wK_90 w, wK_91 w, wK_92 w, wK_93 w, wK_94 w, wK_95 w, wK_96 w, wK_97 w, wK_98 w, wK_99 w, wK_100 w, wK_101 w, wK_102 w, wK_103 w, wK_104 w, kx']
        try simp (disch := omega) only [a_0, a_1, a_L0, a_L1, a_lt, a_le, a_eq, a_sub, a_addn, nI_add, pk_mul, a_in, nI_clamp, a_eqn, a_eqn', a_eqn2, a_n12, eq_self, a_ltn, a_ltn', a_len, a_len', a_shl1, z_shr, fa_and, fa_or, a_tb, a_tb0, a_b0, a_b1, a_bi, a_lc0, a_lcle, a_lcge, a_lclt, a_lcgt, upd_at, upd_ne, updL_at, updL_ne, Nat.reduceAdd, Nat.reduceSub, Nat.reduceMul, Nat.reduceLT, Nat.reduceLeDiff, Nat.reduceEqDiff, true_and, and_true, if_true, if_false, reduceIte, ne_eq, not_false_eq_true, not_true_eq_false, true_implies, false_implies, Nat.not_lt, Nat.not_le, Nat.le_refl, Nat.add_sub_cancel, Nat.lt_irrefl, Nat.not_lt_zero, Nat.zero_le, Nat.testBit_shiftRight, Nat.add_zero, reduceCtorEq, true_or, or_true, or_false, false_or, Bool.true_eq_false, Bool.false_eq_true, Bool.not_eq_false, Bool.not_eq_true, Decidable.not_not, wK_66 w, wR_66_3 w, wR_66_4 w, wR_66_5 w, wR_66_7 w, wR_66_10 w, wR_66_11 w, wR_66_12 w, wR_66_13 w, wR_66_14 w, wR_66_20 w, wR_66_22 w, wR_66_23 w, wR_66_24 w, wR_66_25 w, wR_66_26 w, wR_66_29 w, wR_66_30 w, wR_66_32 w, wR_66_33 w, wR_66_34 w, wR_66_38 w, wR_66_39 w, wR_66_40 w, wR_66_41 w, wR_66_42 w, wR_66_43 w, wR_66_44 w, wR_66_51 w, wR_66_55 w, wR_66_59 w, wR_66_60 w, wR_66_61 w, wR_66_66 w, wR_66_70 w, wR_66_74 w, wR_66_77 w, wR_66_81 w, wR_66_83 w, wK_67 w, wK_68 w, wK_69 w, wK_70 w, wK_71 w, wK_72 w, wK_73 w, wK_74 w, wK_75 w, wK_76 w, wK_77 w, wK_78 w, wK_79 w, wK_80 w, wK_81 w, wK_82 w, wK_83 w, wK_84 w, wK_85 w, wK_86 w, wK_87 w, wK_88 w, wK_89 w, wK_90 w, wK_91 w, wK_92 w, wK_93 w, wK_94 w, wK_95 w, wK_96 w, wK_97 w, wK_98 w, wK_99 w, wK_100 w, wK_101 w, wK_102 w, wK_103 w, wK_104 w, kx']
        repeat (first | refine ⟨fun _ => ?_, fun c => absurd c (by omega)⟩ | refine ⟨fun c => absurd c (by omega), fun _ => ?_⟩)
        try simp (disch := omega) only [a_0, a_1, a_L0, a_L1, a_lt, a_le, a_eq, a_sub, a_addn, nI_add, pk_mul, a_in, nI_clamp, a_eqn, a_eqn', a_eqn2, a_n12, eq_self, a_ltn, a_ltn', a_len, a_len', a_shl1, z_shr, fa_and, fa_or, a_tb, a_tb0, a_b0, a_b1, a_bi, a_lc0, a_lcle, a_lcge, a_lclt, a_lcgt, upd_at, upd_ne, updL_at, updL_ne, Nat.reduceAdd, Nat.reduceSub, Nat.reduceMul, Nat.reduceLT, Nat.reduceLeDiff, Nat.reduceEqDiff, true_and, and_true, if_true, if_false, reduceIte, ne_eq, not_false_eq_true, not_true_eq_false, true_implies, false_implies, Nat.not_lt, Nat.not_le, Nat.le_refl, Nat.add_sub_cancel, Nat.lt_irrefl, Nat.not_lt_zero, Nat.zero_le, Nat.testBit_shiftRight, Nat.add_zero, reduceCtorEq, true_or, or_true, or_false, false_or, Bool.true_eq_false, Bool.false_eq_true, Bool.not_eq_false, Bool.not_eq_true, Decidable.not_not, kx']
        refine ⟨fun c3 => ?_, fun c3 => ⟨fun c4 => ?_, fun c4 => ?_⟩⟩
        · refine nx h' b sv' a1 a2 a3 a4 a5 (fun q => ⟨(a6 q).1, fun k hk hr' h1 h2 h3 => ?_⟩) fr
          omega
        · refine nx h' b sv' a1 a2 a3 a4 a5 (fun q => ⟨(a6 q).1, fun k hk hr' h1 h2 h3 => ?_⟩) fr
          by_cases e : k = x
          · subst e; rw [← (a6 q).1 k hx]; exact c4
          · exact (a6 q).2 k (by omega) hr' h1 h2 h3
        · refine nx (sI h' 102 x (nI (sv y + sv z))) true (fun k => if k = x then sv y + sv z else sv' k) (FM_sI a1 (by simp) (by omega)) ?_ ?_ ?_ ?_ (fun q => by cases q) fr
          · intro k hk
            by_cases e : k = x
            · subst e
              simp only [if_true]
              refine ⟨Or.inr (Len_2 hR ?_ ?_ c3), fun q => ?_⟩
              · rcases (S y hy).1 with z1 | z1
                · omega
                · exact z1
              · rcases (S z hz).1 with z1 | z1
                · omega
                · exact z1
              · have := (a2 k hk).2 q
                have p1 : 1 ≤ sv y := by
                  rcases (S y hy).1 with z1 | z1
                  · omega
                  · exact (Len_rng z1).1
                have p2 : 1 ≤ sv z := by
                  rcases (S z hz).1 with z1 | z1
                  · omega
                  · exact (Len_rng z1).1
                omega
            · simp only [e, if_false]; exact a2 k hk
          · intro k hk
            simp only [ks_nop, ks_aload_0, ks_iload_1, ks_iload_2, ks_iload_3, ks_iload, ks_istore_3, ks_istore, ks_iconst, ks_bipush, ks_ldc_w, ks_iinc, ks_iadd, ks_if_eq, ks_icmp_ge, ks_icmp_gt, ks_goto, ks_get0, ks_get3, ks_get1, ks_get2, ks_iald, ks_sld, ks_iast, ks_inv0, ks_inv1, ks_inv2, ks_inv4, ks_inv3, ks_inv5, ks_inv6, ks_inv7, ks_inv8, ks_iret1, kldi_0, kldl_0, klda_0, kldz_0, kst1_0, kst2_0, kldi_1, kldl_1, klda_1, kldz_1, kst1_1n, kst2_1n, kst1_1i, kst2_1i, kst1_1r, kst2_1r, kst1_1z, kst2_1z, kst1_1l, kst2_1l, kldi_2, kldl_2, klda_2, kldz_2, kst1_2n, kst2_2n, kst1_2i, kst2_2i, kst1_2r, kst2_2r, kst1_2z, kst2_2z, kst1_2l, kst2_2l, kldi_3, kldl_3, klda_3, kldz_3, kst1_3n, kst2_3n, kst1_3i, kst2_3i, kst1_3r, kst2_3r, kst1_3z, kst2_3z, kst1_3l, kst2_3l, kldi_4, kldl_4, klda_4, kldz_4, kst1_4n, kst2_4n, kst1_4i, kst2_4i, kst1_4r, kst2_4r, kst1_4z, kst2_4z, kst1_4l, kst2_4l, kldi_5, kldl_5, klda_5, kldz_5, kst1_5n, kst2_5n, kst1_5i, kst2_5i, kst1_5r, kst2_5r, kst1_5z, kst2_5z, kst1_5l, kst2_5l, kpr_r, kcat_n, kcat_i, kcat_r, kcat_z, kcat_l, kargs_0, kargs_s, kret_v, kret_n, kret_x, zl_20, zl_1000000, jX12_shortens_0, bX12_shortens_0, jX12_shortens_20, bX12_shortens_20, jX12_shortens_94, bX12_shortens_94, jX12_shortens_100, bX12_shortens_100, Nat.reduceAdd, Nat.reduceLeDiff, Nat.reduceEqDiff, Nat.reduceSub, Nat.zero_le, Nat.add_left_cancel_iff, true_and, and_true, if_true, if_false, reduceIte, ne_eq, not_false_eq_true, Nat.add_eq_left, Nat.left_eq_add, kI_sI, kL_sI, kR_sI, kK_sI, kI_sL, kL_sL, kR_sL, kK_sL, kI_sIA, kL_sIA, kR_sIA, kK_sIA, kI_sLA, kL_sLA, kR_sLA, kK_sLA]
            by_cases e : k = x
            · rw [e, upd_at, if_pos rfl]
            · rw [upd_ne _ _ e, if_neg e]; exact a3 k hk
          · intro k hk
            by_cases e : k = x
            · subst e; simp only [if_true]; omega
            · simp only [e, if_false]; exact a4 k hk
          · intro _
            exact ⟨x, hx, by simp only [if_true]; omega⟩
  refine sX12_shortens _ _ _ ?_
  refine eX12_shortens_0 ?_
  simp only [ks_nop, ks_aload_0, ks_iload_1, ks_iload_2, ks_iload_3, ks_iload, ks_istore_3, ks_istore, ks_iconst, ks_bipush, ks_ldc_w, ks_iinc, ks_iadd, ks_if_eq, ks_icmp_ge, ks_icmp_gt, ks_goto, ks_get0, ks_get3, ks_get1, ks_get2, ks_iald, ks_sld, ks_iast, ks_inv0, ks_inv1, ks_inv2, ks_inv4, ks_inv3, ks_inv5, ks_inv6, ks_inv7, ks_inv8, ks_iret1, kldi_0, kldl_0, klda_0, kldz_0, kst1_0, kst2_0, kldi_1, kldl_1, klda_1, kldz_1, kst1_1n, kst2_1n, kst1_1i, kst2_1i, kst1_1r, kst2_1r, kst1_1z, kst2_1z, kst1_1l, kst2_1l, kldi_2, kldl_2, klda_2, kldz_2, kst1_2n, kst2_2n, kst1_2i, kst2_2i, kst1_2r, kst2_2r, kst1_2z, kst2_2z, kst1_2l, kst2_2l, kldi_3, kldl_3, klda_3, kldz_3, kst1_3n, kst2_3n, kst1_3i, kst2_3i, kst1_3r, kst2_3r, kst1_3z, kst2_3z, kst1_3l, kst2_3l, kldi_4, kldl_4, klda_4, kldz_4, kst1_4n, kst2_4n, kst1_4i, kst2_4i, kst1_4r, kst2_4r, kst1_4z, kst2_4z, kst1_4l, kst2_4l, kldi_5, kldl_5, klda_5, kldz_5, kst1_5n, kst2_5n, kst1_5i, kst2_5i, kst1_5r, kst2_5r, kst1_5z, kst2_5z, kst1_5l, kst2_5l, kpr_r, kcat_n, kcat_i, kcat_r, kcat_z, kcat_l, kargs_0, kargs_s, kret_v, kret_n, kret_x, zl_20, zl_1000000, jX12_shortens_0, bX12_shortens_0, jX12_shortens_20, bX12_shortens_20, jX12_shortens_94, bX12_shortens_94, jX12_shortens_100, bX12_shortens_100, Nat.reduceAdd, Nat.reduceLeDiff, Nat.reduceEqDiff, Nat.reduceSub, Nat.zero_le, Nat.add_left_cancel_iff, true_and, and_true, if_true, if_false, reduceIte, ne_eq, not_false_eq_true, Nat.add_eq_left, Nat.left_eq_add, kI_sI, kL_sI, kR_sI, kK_sI, kI_sL, kL_sL, kR_sL, kK_sL, kI_sIA, kL_sIA, kR_sIA, kK_sIA, kI_sLA, kL_sLA, kR_sLA, kK_sLA, wK_66 w, wR_66_3 w, wR_66_4 w, wR_66_5 w, wR_66_7 w, wR_66_10 w, wR_66_11 w, wR_66_12 w, wR_66_13 w, wR_66_14 w, wR_66_20 w, wR_66_22 w, wR_66_23 w, wR_66_24 w, wR_66_25 w, wR_66_26 w, wR_66_29 w, wR_66_30 w, wR_66_32 w, wR_66_33 w, wR_66_34 w, wR_66_38 w, wR_66_39 w, wR_66_40 w, wR_66_41 w, wR_66_42 w, wR_66_43 w, wR_66_44 w, wR_66_51 w, wR_66_55 w, wR_66_59 w, wR_66_60 w, wR_66_61 w, wR_66_66 w, wR_66_70 w, wR_66_74 w, wR_66_77 w, wR_66_81 w, wR_66_83 w, wK_67 w, wK_68 w, wK_69 w, wK_70 w, wK_71 w, wK_72 w, wK_73 w, wK_74 w, wK_75 w, wK_76 w, wK_77 w, wK_78 w, wK_79 w, wK_80 w, wK_81 w, wK_82 w, wK_83 w, wK_84 w, wK_85 w, wK_86 w, wK_87 w, wK_88 w, wK_89 w, wK_90 w, wK_91 w, wK_92 w, wK_93 w, wK_94 w, wK_95 w, wK_96 w, wK_97 w, wK_98 w, wK_99 w, wK_100 w, wK_101 w, wK_102 w, wK_103 w, wK_104 w]
  try simp (disch := omega) only [a_0, a_1, a_L0, a_L1, a_lt, a_le, a_eq, a_sub, a_addn, nI_add, pk_mul, a_in, nI_clamp, a_eqn, a_eqn', a_eqn2, a_n12, eq_self, a_ltn, a_ltn', a_len, a_len', a_shl1, z_shr, fa_and, fa_or, a_tb, a_tb0, a_b0, a_b1, a_bi, a_lc0, a_lcle, a_lcge, a_lclt, a_lcgt, upd_at, upd_ne, updL_at, updL_ne, Nat.reduceAdd, Nat.reduceSub, Nat.reduceMul, Nat.reduceLT, Nat.reduceLeDiff, Nat.reduceEqDiff, true_and, and_true, if_true, if_false, reduceIte, ne_eq, not_false_eq_true, not_true_eq_false, true_implies, false_implies, Nat.not_lt, Nat.not_le, Nat.le_refl, Nat.add_sub_cancel, Nat.lt_irrefl, Nat.not_lt_zero, Nat.zero_le, Nat.testBit_shiftRight, Nat.add_zero, reduceCtorEq, true_or, or_true, or_false, false_or, Bool.true_eq_false, Bool.false_eq_true, Bool.not_eq_false, Bool.not_eq_true, Decidable.not_not, ky, kz]
  exact loop 0 (by omega) h false sv (FM_rf _ _ _ _) S K (fun _ _ => Nat.le_refl _) (fun q => by cases q) (fun _ => ⟨fun _ _ => rfl, fun k hk => absurd hk (by omega)⟩) (fun q => by cases q)
end RF

/-! short words by their numbers -/
def wN (sl : List Nat) : Nat → Nat → List Nat
  | 0, _ => []
  | l + 1, v => wN sl l (v / sl.length) ++ [sl.getD (v % sl.length) 0]
theorem wN_len (sl : List Nat) : ∀ l v, (wN sl l v).length = l
  | 0, _ => rfl
  | l + 1, v => by rw [wN, List.length_append, wN_len sl l]; rfl
theorem wN_app {sl : List Nat} : ∀ b a i j, j < sl.length ^ b → wN sl (a + b) (i * sl.length ^ b + j) = wN sl a i ++ wN sl b j
  | 0, a, i, j, h => by
    have : j = 0 := by simpa using h
    subst this
    simp [wN]
  | b + 1, a, i, j, h => by
    have hp : 0 < sl.length := by
      rcases Nat.eq_zero_or_pos sl.length with q | q
      · rw [q, Nat.pow_succ, Nat.mul_zero] at h; omega
      · exact q
    have e1 : (i * sl.length ^ (b + 1) + j) / sl.length = i * sl.length ^ b + j / sl.length := by
      rw [Nat.pow_succ, ← Nat.mul_assoc, Nat.mul_comm (i * sl.length ^ b) sl.length, Nat.mul_add_div hp]
    have e2 : (i * sl.length ^ (b + 1) + j) % sl.length = j % sl.length := by
      rw [Nat.pow_succ, ← Nat.mul_assoc, Nat.mul_comm (i * sl.length ^ b) sl.length, Nat.mul_add_mod]
    have h2 : j / sl.length < sl.length ^ b := by
      rw [Nat.div_lt_iff_lt_mul hp, ← Nat.pow_succ]; exact h
    show wN sl (a + b + 1) _ = _
    rw [wN, e1, e2, wN_app b a i (j / sl.length) h2, wN, List.append_assoc]
theorem wN_get {sl : List Nat} : ∀ l v k, k < l → (wN sl l v).getD k 0 = sl.getD (v / sl.length ^ (l - 1 - k) % sl.length) 0
  | 0, v, k, h => by omega
  | l + 1, v, k, h => by
    rw [wN]
    by_cases e : k = l
    · subst e
      have := getD_r (l := wN sl k (v / sl.length)) (x := sl.getD (v % sl.length) 0) (d := 0)
      rw [wN_len] at this
      rw [this]
      simp
    · rw [getD_l (by rw [wN_len]; omega), wN_get l (v / sl.length) k (by omega)]
      have : l + 1 - 1 - k = (l - 1 - k) + 1 := by omega
      rw [this, Nat.pow_succ', ← Nat.div_div_eq_div_mul]
theorem wN_ok {sl : List Nat} (hs : ∀ s ∈ sl, s < 4) (hp : 0 < sl.length) : ∀ l v, wok (wN sl l v)
  | 0, _ => wok_nil
  | l + 1, v => by
    rw [wN]
    refine wok_app (wN_ok hs hp l _) (fun s hs' => ?_)
    have : s = sl.getD (v % sl.length) 0 := by simpa using hs'
    rw [this]
    exact hs _ (getD_mem (Nat.mod_lt _ hp))
/-- where the words of a length begin -/
def fFr (n : Nat) : Nat → Nat
  | 0 => 0
  | l + 1 => fFr n l + (if l = 0 then 0 else n ^ l)
theorem fFr_1 (n : Nat) : fFr n 1 = 0 := rfl
theorem fFr_s {n l : Nat} (h : 1 ≤ l) : fFr n (l + 1) = fFr n l + n ^ l := by
  rw [fFr, if_neg (by omega)]
theorem pw4 {n : Nat} (h : n ≤ 4) (l : Nat) : n ^ l ≤ 4 ^ l := Nat.pow_le_pow_left h l
theorem fFr_le {n : Nat} (h : n ≤ 4) : ∀ l, l ≤ 6 → fFr n (l + 1) ≤ fFr 4 (l + 1)
  | 0, _ => Nat.le_refl _
  | l + 1, hl => by
    have := fFr_le h l (by omega)
    rw [fFr_s (by omega), fFr_s (n := 4) (by omega)]
    have := pw4 h (l + 1)
    omega
theorem fFr_b {n : Nat} (h : n ≤ 4) {l : Nat} (hl : l ≤ 6) : fFr n (l + 1) ≤ 5460 := by
  have h1 := fFr_le h l hl
  have h2 : ∀ l, l ≤ 6 → fFr 4 (l + 1) ≤ 5460 := by decide
  have := h2 l hl
  omega
theorem pw_b {n : Nat} (h : n ≤ 4) {l : Nat} (hl : l ≤ 6) : n ^ l ≤ 4096 := by
  have := pw4 h l
  have h2 : ∀ l, l ≤ 6 → 4 ^ l ≤ 4096 := by decide
  have := h2 l hl
  omega
/-- the reference's tables of lengths -/
def ML (h : KH) (B : GB) : Prop := ∀ l, 1 ≤ l → l ≤ 6 → kI h 78 l = nI (fFr (sgl B).length l) ∧ kI h 79 l = nI ((sgl B).length ^ l)
def MTo (h : KH) (B : GB) : Prop := ∀ l v, 1 ≤ l → l ≤ 6 → v < (sgl B).length ^ l → kI h 80 (fFr (sgl B).length l + v) = nI (tdB B (wN (sgl B) l v))
def MHa (h : KH) (B : GB) (P : List (List Nat)) (C : CL) (m : Nat) : Prop := ∀ l v, 1 ≤ l → l ≤ m → v < (sgl B).length ^ l → kI h 81 (fFr (sgl B).length l + v) = nI (hs B P C (wN (sgl B) l v))
section RF
variable {r : Nat} {h : KH} {Q : KO → KH → Prop} {B : GB} {nn : Nat} {P : List (List Nat)} {C : CL}
theorem n_div {a b : Nat} (ha : a < 2 ^ 31) (hb : 0 < b) (hb2 : b < 2 ^ 31) : nI a / nI b = nI (a / b) := pk_div ha hb hb2
theorem n_rem {a b : Nat} (ha : a < 2 ^ 31) (hb : 0 < b) (hb2 : b < 2 ^ 31) : nI a - nI a / nI b * nI b = nI (a % b) := pk_rem ha hb hb2
theorem c_wordOf {l v : Nat} (w : kW h) (S : MS h B) (hp : 0 < (sgl B).length) (hl : l ≤ 20) (hv : v < 2 ^ 31) (H : ∀ h', FM [21] [76] [] h h' → MW (kI h' 66) (kI h' 76) (wN (sgl B) l v) → Q (.inl none) h') : kCalls r yX12_wordOf [.ref 66, .int (nI l), .int (nI v)] h Q := by
  have w0 := w
  have s4 := sgl_len B
  have loop : ∀ k, k ≤ l → ∀ h' v4, v4 = (if k = 0 then -nI 1 else nI (k - 1)) → FM [21] [76] [] h h' → kI h' 66 21 = nI l → (∀ i, k ≤ i → i < l → kI h' 76 i = nI ((wN (sgl B) l v).getD i 0)) → kRun r mX12_wordOf 12 [some (.ref 66), some (.int (nI l)), some (.int (nI v)), some (.int (nI (v / (sgl B).length ^ (l - k)))), some (.int v4)] [] h' Q := by
    intro k
    induction k with
    | zero =>
      intro _ h' v4 hv4 f k21 kW'
      rw [if_pos rfl] at hv4
      subst hv4
      refine eX12_wordOf_12 ?_
      simp only [ks_nop, ks_aload_0, ks_iload_1, ks_iload_2, ks_iload_3, ks_iload, ks_istore_3, ks_istore, ks_iconst, ks_iinc, ks_isub, ks_idiv, ks_irem, ks_if_lt, ks_goto, ks_get0, ks_get3, ks_get1, ks_get2, ks_put0, ks_put1, ks_put2, ks_put3, ks_iald, ks_sld, ks_iast, ks_vret, kldi_0, kldl_0, klda_0, kldz_0, kst1_0, kst2_0, kldi_1, kldl_1, klda_1, kldz_1, kst1_1n, kst2_1n, kst1_1i, kst2_1i, kst1_1r, kst2_1r, kst1_1z, kst2_1z, kst1_1l, kst2_1l, kldi_2, kldl_2, klda_2, kldz_2, kst1_2n, kst2_2n, kst1_2i, kst2_2i, kst1_2r, kst2_2r, kst1_2z, kst2_2z, kst1_2l, kst2_2l, kldi_3, kldl_3, klda_3, kldz_3, kst1_3n, kst2_3n, kst1_3i, kst2_3i, kst1_3r, kst2_3r, kst1_3z, kst2_3z, kst1_3l, kst2_3l, kldi_4, kldl_4, klda_4, kldz_4, kst1_4n, kst2_4n, kst1_4i, kst2_4i, kst1_4r, kst2_4r, kst1_4z, kst2_4z, kst1_4l, kst2_4l, kcat_n, kcat_i, kcat_r, kcat_z, kcat_l, jX12_wordOf_0, bX12_wordOf_0, jX12_wordOf_12, bX12_wordOf_12, jX12_wordOf_48, bX12_wordOf_48, Nat.reduceAdd, Nat.reduceLeDiff, Nat.reduceEqDiff, Nat.reduceSub, Nat.zero_le, Nat.add_left_cancel_iff, true_and, and_true, if_true, if_false, reduceIte, ne_eq, not_false_eq_true, Nat.add_eq_left, Nat.left_eq_add, kI_sI, kL_sI, kR_sI, kK_sI, kI_sL, kL_sL, kR_sL, kK_sL, kI_sIA, kL_sIA, kR_sIA, kK_sIA, kI_sLA, kL_sLA, kR_sLA, kK_sLA]
      try simp (disch := omega) only [a_0, a_1, a_L0, a_L1, a_lt, a_le, a_eq, a_sub, a_addn, nI_add, pk_mul, a_in, nI_clamp, a_eqn, a_eqn', a_eqn2, a_n12, eq_self, a_ltn, a_ltn', a_len, a_len', a_shl1, z_shr, fa_and, fa_or, a_tb, a_tb0, a_b0, a_b1, a_bi, a_lc0, a_lcle, a_lcge, a_lclt, a_lcgt, upd_at, upd_ne, updL_at, updL_ne, Nat.reduceAdd, Nat.reduceSub, Nat.reduceMul, Nat.reduceLT, Nat.reduceLeDiff, Nat.reduceEqDiff, true_and, and_true, if_true, if_false, reduceIte, ne_eq, not_false_eq_true, not_true_eq_false, true_implies, false_implies, Nat.not_lt, Nat.not_le, Nat.le_refl, Nat.add_sub_cancel, Nat.lt_irrefl, Nat.not_lt_zero, Nat.zero_le, Nat.testBit_shiftRight, Nat.add_zero, reduceCtorEq, true_or, or_true, or_false, false_or, Bool.true_eq_false, Bool.false_eq_true, Bool.not_eq_false, Bool.not_eq_true, Decidable.not_not]
      repeat (first | refine ⟨fun _ => ?_, fun c => absurd c (by omega)⟩ | refine ⟨fun c => absurd c (by omega), fun _ => ?_⟩)
      exact H h' f ⟨by rw [wN_len]; exact k21, fun i hi => kW' i (by omega) (by rw [wN_len] at hi; exact hi)⟩
    | succ k ih =>
      intro hk h' v4 hv4 f k21 kW'
      rw [if_neg (by omega), Nat.add_sub_cancel] at hv4
      subst hv4
      have w := FM_W f w0
      have S' := MS_fm f (by simp) (by simp) S
      have hq : v / (sgl B).length ^ (l - (k + 1)) ≤ v := Nat.div_le_self _ _
      have hg := wN_get (sl := sgl B) l v k (by omega)
      rw [show l - 1 - k = l - (k + 1) by omega] at hg
      have hs : v / (sgl B).length ^ (l - k) = v / (sgl B).length ^ (l - (k + 1)) / (sgl B).length := by
        rw [show l - k = (l - (k + 1)) + 1 by omega, Nat.pow_succ, Nat.div_div_eq_div_mul]
      rw [hs] at ih
      generalize v / (sgl B).length ^ (l - (k + 1)) = q at hq hg ih
      have hm : q % (sgl B).length < (sgl B).length := Nat.mod_lt _ hp
      have hd := n_div (a := q) (b := (sgl B).length) (by omega) hp (by omega)
      have hle : q / (sgl B).length * (sgl B).length ≤ q := Nat.div_mul_le_self _ _
      have hr : q - q / (sgl B).length * (sgl B).length = q % (sgl B).length := by
        have := Nat.div_add_mod q (sgl B).length
        rw [Nat.mul_comm] at this
        omega
      have sk := S'.2 _ hm
      have e4 : nI k + -nI 1 = if k = 0 then -nI 1 else nI (k - 1) := by
        by_cases z : k = 0
        · subst z; decide
        · rw [if_neg z, a_addn (by omega)]
      refine eX12_wordOf_12 ?_
      simp only [ks_nop, ks_aload_0, ks_iload_1, ks_iload_2, ks_iload_3, ks_iload, ks_istore_3, ks_istore, ks_iconst, ks_iinc, ks_isub, ks_idiv, ks_irem, ks_if_lt, ks_goto, ks_get0, ks_get3, ks_get1, ks_get2, ks_put0, ks_put1, ks_put2, ks_put3, ks_iald, ks_sld, ks_iast, ks_vret, kldi_0, kldl_0, klda_0, kldz_0, kst1_0, kst2_0, kldi_1, kldl_1, klda_1, kldz_1, kst1_1n, kst2_1n, kst1_1i, kst2_1i, kst1_1r, kst2_1r, kst1_1z, kst2_1z, kst1_1l, kst2_1l, kldi_2, kldl_2, klda_2, kldz_2, kst1_2n, kst2_2n, kst1_2i, kst2_2i, kst1_2r, kst2_2r, kst1_2z, kst2_2z, kst1_2l, kst2_2l, kldi_3, kldl_3, klda_3, kldz_3, kst1_3n, kst2_3n, kst1_3i, kst2_3i, kst1_3r, kst2_3r, kst1_3z, kst2_3z, kst1_3l, kst2_3l, kldi_4, kldl_4, klda_4, kldz_4, kst1_4n, kst2_4n, kst1_4i, kst2_4i, kst1_4r, kst2_4r, kst1_4z, kst2_4z, kst1_4l, kst2_4l, kcat_n, kcat_i, kcat_r, kcat_z, kcat_l, jX12_wordOf_0, bX12_wordOf_0, jX12_wordOf_12, bX12_wordOf_12, jX12_wordOf_48, bX12_wordOf_48, Nat.reduceAdd, Nat.reduceLeDiff, Nat.reduceEqDiff, Nat.reduceSub, Nat.zero_le, Nat.add_left_cancel_iff, true_and, and_true, if_true, if_false, reduceIte, ne_eq, not_false_eq_true, Nat.add_eq_left, Nat.left_eq_add, kI_sI, kL_sI, kR_sI, kK_sI, kI_sL, kL_sL, kR_sL, kK_sL, kI_sIA, kL_sIA, kR_sIA, kK_sIA, kI_sLA, kL_sLA, kR_sLA, kK_sLA, wK_66 w, wR_66_3 w, wR_66_4 w, wR_66_5 w, wR_66_7 w, wR_66_10 w, wR_66_11 w, wR_66_12 w, wR_66_13 w, wR_66_14 w, wR_66_20 w, wR_66_22 w, wR_66_23 w, wR_66_24 w, wR_66_25 w, wR_66_26 w, wR_66_29 w, wR_66_30 w, wR_66_32 w, wR_66_33 w, wR_66_34 w, wR_66_38 w, wR_66_39 w, wR_66_40 w, wR_66_41 w, wR_66_42 w, wR_66_43 w, wR_66_44 w, wR_66_51 w, wR_66_55 w, wR_66_59 w, wR_66_60 w, wR_66_61 w, wR_66_66 w, wR_66_70 w, wR_66_74 w, wR_66_77 w, wR_66_81 w, wR_66_83 w, wK_67 w, wK_68 w, wK_69 w, wK_70 w, wK_71 w, wK_72 w, wK_73 w, wK_74 w, wK_75 w, wK_76 w, wK_77 w, wK_78 w, wK_79 w, wK_80 w, wK_81 w, wK_82 w, wK_83 w, wK_84 w, wK_85 w, wK_86 w, wK_87 w, wK_88 w, wK_89 w, wK_90 w, wK_91 w, wK_92 w, wK_93 w, wK_94 w, wK_95 w, wK_96 w, wK_97 w, wK_98 w, wK_99 w, wK_100 w, wK_101 w, wK_102 w, wK_103 w, wK_104 w, S'.1, hr, hd]
      try simp (disch := omega) only [a_0, a_1, a_L0, a_L1, a_lt, a_le, a_eq, a_sub, a_addn, nI_add, pk_mul, a_in, nI_clamp, a_eqn, a_eqn', a_eqn2, a_n12, eq_self, a_ltn, a_ltn', a_len, a_len', a_shl1, z_shr, fa_and, fa_or, a_tb, a_tb0, a_b0, a_b1, a_bi, a_lc0, a_lcle, a_lcge, a_lclt, a_lcgt, upd_at, upd_ne, updL_at, updL_ne, Nat.reduceAdd, Nat.reduceSub, Nat.reduceMul, Nat.reduceLT, Nat.reduceLeDiff, Nat.reduceEqDiff, true_and, and_true, if_true, if_false, reduceIte, ne_eq, not_false_eq_true, not_true_eq_false, true_implies, false_implies, Nat.not_lt, Nat.not_le, Nat.le_refl, Nat.add_sub_cancel, Nat.lt_irrefl, Nat.not_lt_zero, Nat.zero_le, Nat.testBit_shiftRight, Nat.add_zero, reduceCtorEq, true_or, or_true, or_false, false_or, Bool.true_eq_false, Bool.false_eq_true, Bool.not_eq_false, Bool.not_eq_true, Decidable.not_not, wK_66 w, wR_66_3 w, wR_66_4 w, wR_66_5 w, wR_66_7 w, wR_66_10 w, wR_66_11 w, wR_66_12 w, wR_66_13 w, wR_66_14 w, wR_66_20 w, wR_66_22 w, wR_66_23 w, wR_66_24 w, wR_66_25 w, wR_66_26 w, wR_66_29 w, wR_66_30 w, wR_66_32 w, wR_66_33 w, wR_66_34 w, wR_66_38 w, wR_66_39 w, wR_66_40 w, wR_66_41 w, wR_66_42 w, wR_66_43 w, wR_66_44 w, wR_66_51 w, wR_66_55 w, wR_66_59 w, wR_66_60 w, wR_66_61 w, wR_66_66 w, wR_66_70 w, wR_66_74 w, wR_66_77 w, wR_66_81 w, wR_66_83 w, wK_67 w, wK_68 w, wK_69 w, wK_70 w, wK_71 w, wK_72 w, wK_73 w, wK_74 w, wK_75 w, wK_76 w, wK_77 w, wK_78 w, wK_79 w, wK_80 w, wK_81 w, wK_82 w, wK_83 w, wK_84 w, wK_85 w, wK_86 w, wK_87 w, wK_88 w, wK_89 w, wK_90 w, wK_91 w, wK_92 w, wK_93 w, wK_94 w, wK_95 w, wK_96 w, wK_97 w, wK_98 w, wK_99 w, wK_100 w, wK_101 w, wK_102 w, wK_103 w, wK_104 w, S'.1, hr, hd]
      repeat (first | refine ⟨fun _ => ?_, fun c => absurd c (by omega)⟩ | refine ⟨fun c => absurd c (by omega), fun _ => ?_⟩)
      try simp (disch := omega) only [a_0, a_1, a_L0, a_L1, a_lt, a_le, a_eq, a_sub, a_addn, nI_add, pk_mul, a_in, nI_clamp, a_eqn, a_eqn', a_eqn2, a_n12, eq_self, a_ltn, a_ltn', a_len, a_len', a_shl1, z_shr, fa_and, fa_or, a_tb, a_tb0, a_b0, a_b1, a_bi, a_lc0, a_lcle, a_lcge, a_lclt, a_lcgt, upd_at, upd_ne, updL_at, updL_ne, Nat.reduceAdd, Nat.reduceSub, Nat.reduceMul, Nat.reduceLT, Nat.reduceLeDiff, Nat.reduceEqDiff, true_and, and_true, if_true, if_false, reduceIte, ne_eq, not_false_eq_true, not_true_eq_false, true_implies, false_implies, Nat.not_lt, Nat.not_le, Nat.le_refl, Nat.add_sub_cancel, Nat.lt_irrefl, Nat.not_lt_zero, Nat.zero_le, Nat.testBit_shiftRight, Nat.add_zero, reduceCtorEq, true_or, or_true, or_false, false_or, Bool.true_eq_false, Bool.false_eq_true, Bool.not_eq_false, Bool.not_eq_true, Decidable.not_not, sk, hr, hd]
      repeat (first | refine ⟨fun _ => ?_, fun c => absurd c (by omega)⟩ | refine ⟨fun c => absurd c (by omega), fun _ => ?_⟩)
      refine ⟨by omega, by omega, ?_⟩
      refine ih (by omega) (sI h' 76 k (nI ((sgl B).getD (q % (sgl B).length) 0))) _ ?_ (FM_sI f (by simp) (by omega)) ?_ ?_
      · first | exact e4 | (by_cases z : k = 0; (subst z; decide); (rw [if_neg z]))
      · simp only [ks_nop, ks_aload_0, ks_iload_1, ks_iload_2, ks_iload_3, ks_iload, ks_istore_3, ks_istore, ks_iconst, ks_iinc, ks_isub, ks_idiv, ks_irem, ks_if_lt, ks_goto, ks_get0, ks_get3, ks_get1, ks_get2, ks_put0, ks_put1, ks_put2, ks_put3, ks_iald, ks_sld, ks_iast, ks_vret, kldi_0, kldl_0, klda_0, kldz_0, kst1_0, kst2_0, kldi_1, kldl_1, klda_1, kldz_1, kst1_1n, kst2_1n, kst1_1i, kst2_1i, kst1_1r, kst2_1r, kst1_1z, kst2_1z, kst1_1l, kst2_1l, kldi_2, kldl_2, klda_2, kldz_2, kst1_2n, kst2_2n, kst1_2i, kst2_2i, kst1_2r, kst2_2r, kst1_2z, kst2_2z, kst1_2l, kst2_2l, kldi_3, kldl_3, klda_3, kldz_3, kst1_3n, kst2_3n, kst1_3i, kst2_3i, kst1_3r, kst2_3r, kst1_3z, kst2_3z, kst1_3l, kst2_3l, kldi_4, kldl_4, klda_4, kldz_4, kst1_4n, kst2_4n, kst1_4i, kst2_4i, kst1_4r, kst2_4r, kst1_4z, kst2_4z, kst1_4l, kst2_4l, kcat_n, kcat_i, kcat_r, kcat_z, kcat_l, jX12_wordOf_0, bX12_wordOf_0, jX12_wordOf_12, bX12_wordOf_12, jX12_wordOf_48, bX12_wordOf_48, Nat.reduceAdd, Nat.reduceLeDiff, Nat.reduceEqDiff, Nat.reduceSub, Nat.zero_le, Nat.add_left_cancel_iff, true_and, and_true, if_true, if_false, reduceIte, ne_eq, not_false_eq_true, Nat.add_eq_left, Nat.left_eq_add, kI_sI, kL_sI, kR_sI, kK_sI, kI_sL, kL_sL, kR_sL, kK_sL, kI_sIA, kL_sIA, kR_sIA, kK_sIA, kI_sLA, kL_sLA, kR_sLA, kK_sLA]
        exact k21
      · intro i h1 h2
        simp only [ks_nop, ks_aload_0, ks_iload_1, ks_iload_2, ks_iload_3, ks_iload, ks_istore_3, ks_istore, ks_iconst, ks_iinc, ks_isub, ks_idiv, ks_irem, ks_if_lt, ks_goto, ks_get0, ks_get3, ks_get1, ks_get2, ks_put0, ks_put1, ks_put2, ks_put3, ks_iald, ks_sld, ks_iast, ks_vret, kldi_0, kldl_0, klda_0, kldz_0, kst1_0, kst2_0, kldi_1, kldl_1, klda_1, kldz_1, kst1_1n, kst2_1n, kst1_1i, kst2_1i, kst1_1r, kst2_1r, kst1_1z, kst2_1z, kst1_1l, kst2_1l, kldi_2, kldl_2, klda_2, kldz_2, kst1_2n, kst2_2n, kst1_2i, kst2_2i, kst1_2r, kst2_2r, kst1_2z, kst2_2z, kst1_2l, kst2_2l, kldi_3, kldl_3, klda_3, kldz_3, kst1_3n, kst2_3n, kst1_3i, kst2_3i, kst1_3r, kst2_3r, kst1_3z, kst2_3z, kst1_3l, kst2_3l, kldi_4, kldl_4, klda_4, kldz_4, kst1_4n, kst2_4n, kst1_4i, kst2_4i, kst1_4r, kst2_4r, kst1_4z, kst2_4z, kst1_4l, kst2_4l, kcat_n, kcat_i, kcat_r, kcat_z, kcat_l, jX12_wordOf_0, bX12_wordOf_0, jX12_wordOf_12, bX12_wordOf_12, jX12_wordOf_48, bX12_wordOf_48, Nat.reduceAdd, Nat.reduceLeDiff, Nat.reduceEqDiff, Nat.reduceSub, Nat.zero_le, Nat.add_left_cancel_iff, true_and, and_true, if_true, if_false, reduceIte, ne_eq, not_false_eq_true, Nat.add_eq_left, Nat.left_eq_add, kI_sI, kL_sI, kR_sI, kK_sI, kI_sL, kL_sL, kR_sL, kK_sL, kI_sIA, kL_sIA, kR_sIA, kK_sIA, kI_sLA, kL_sLA, kR_sLA, kK_sLA]
        by_cases z : i = k
        · subst z; rw [upd_at, hg]
        · rw [upd_ne _ _ z]; exact kW' i (by omega) h2
  refine sX12_wordOf _ _ _ ?_
  refine eX12_wordOf_0 ?_
  simp only [ks_nop, ks_aload_0, ks_iload_1, ks_iload_2, ks_iload_3, ks_iload, ks_istore_3, ks_istore, ks_iconst, ks_iinc, ks_isub, ks_idiv, ks_irem, ks_if_lt, ks_goto, ks_get0, ks_get3, ks_get1, ks_get2, ks_put0, ks_put1, ks_put2, ks_put3, ks_iald, ks_sld, ks_iast, ks_vret, kldi_0, kldl_0, klda_0, kldz_0, kst1_0, kst2_0, kldi_1, kldl_1, klda_1, kldz_1, kst1_1n, kst2_1n, kst1_1i, kst2_1i, kst1_1r, kst2_1r, kst1_1z, kst2_1z, kst1_1l, kst2_1l, kldi_2, kldl_2, klda_2, kldz_2, kst1_2n, kst2_2n, kst1_2i, kst2_2i, kst1_2r, kst2_2r, kst1_2z, kst2_2z, kst1_2l, kst2_2l, kldi_3, kldl_3, klda_3, kldz_3, kst1_3n, kst2_3n, kst1_3i, kst2_3i, kst1_3r, kst2_3r, kst1_3z, kst2_3z, kst1_3l, kst2_3l, kldi_4, kldl_4, klda_4, kldz_4, kst1_4n, kst2_4n, kst1_4i, kst2_4i, kst1_4r, kst2_4r, kst1_4z, kst2_4z, kst1_4l, kst2_4l, kcat_n, kcat_i, kcat_r, kcat_z, kcat_l, jX12_wordOf_0, bX12_wordOf_0, jX12_wordOf_12, bX12_wordOf_12, jX12_wordOf_48, bX12_wordOf_48, Nat.reduceAdd, Nat.reduceLeDiff, Nat.reduceEqDiff, Nat.reduceSub, Nat.zero_le, Nat.add_left_cancel_iff, true_and, and_true, if_true, if_false, reduceIte, ne_eq, not_false_eq_true, Nat.add_eq_left, Nat.left_eq_add, kI_sI, kL_sI, kR_sI, kK_sI, kI_sL, kL_sL, kR_sL, kK_sL, kI_sIA, kL_sIA, kR_sIA, kK_sIA, kI_sLA, kL_sLA, kR_sLA, kK_sLA, wK_66 w, wR_66_3 w, wR_66_4 w, wR_66_5 w, wR_66_7 w, wR_66_10 w, wR_66_11 w, wR_66_12 w, wR_66_13 w, wR_66_14 w, wR_66_20 w, wR_66_22 w, wR_66_23 w, wR_66_24 w, wR_66_25 w, wR_66_26 w, wR_66_29 w, wR_66_30 w, wR_66_32 w, wR_66_33 w, wR_66_34 w, wR_66_38 w, wR_66_39 w, wR_66_40 w, wR_66_41 w, wR_66_42 w, wR_66_43 w, wR_66_44 w, wR_66_51 w, wR_66_55 w, wR_66_59 w, wR_66_60 w, wR_66_61 w, wR_66_66 w, wR_66_70 w, wR_66_74 w, wR_66_77 w, wR_66_81 w, wR_66_83 w, wK_67 w, wK_68 w, wK_69 w, wK_70 w, wK_71 w, wK_72 w, wK_73 w, wK_74 w, wK_75 w, wK_76 w, wK_77 w, wK_78 w, wK_79 w, wK_80 w, wK_81 w, wK_82 w, wK_83 w, wK_84 w, wK_85 w, wK_86 w, wK_87 w, wK_88 w, wK_89 w, wK_90 w, wK_91 w, wK_92 w, wK_93 w, wK_94 w, wK_95 w, wK_96 w, wK_97 w, wK_98 w, wK_99 w, wK_100 w, wK_101 w, wK_102 w, wK_103 w, wK_104 w]
  have e4 : nI l - nI 1 = if l = 0 then -nI 1 else nI (l - 1) := by
    by_cases z : l = 0
    · subst z; decide
    · rw [if_neg z, a_sub (by omega)]
  have f1 : FM [21] [76] [] h (sI h 66 21 (nI l)) := FM_put (FM_rf _ _ _ _) (by simp)
  have k1 : kI (sI h 66 21 (nI l)) 66 21 = nI l := by
    simp only [ks_nop, ks_aload_0, ks_iload_1, ks_iload_2, ks_iload_3, ks_iload, ks_istore_3, ks_istore, ks_iconst, ks_iinc, ks_isub, ks_idiv, ks_irem, ks_if_lt, ks_goto, ks_get0, ks_get3, ks_get1, ks_get2, ks_put0, ks_put1, ks_put2, ks_put3, ks_iald, ks_sld, ks_iast, ks_vret, kldi_0, kldl_0, klda_0, kldz_0, kst1_0, kst2_0, kldi_1, kldl_1, klda_1, kldz_1, kst1_1n, kst2_1n, kst1_1i, kst2_1i, kst1_1r, kst2_1r, kst1_1z, kst2_1z, kst1_1l, kst2_1l, kldi_2, kldl_2, klda_2, kldz_2, kst1_2n, kst2_2n, kst1_2i, kst2_2i, kst1_2r, kst2_2r, kst1_2z, kst2_2z, kst1_2l, kst2_2l, kldi_3, kldl_3, klda_3, kldz_3, kst1_3n, kst2_3n, kst1_3i, kst2_3i, kst1_3r, kst2_3r, kst1_3z, kst2_3z, kst1_3l, kst2_3l, kldi_4, kldl_4, klda_4, kldz_4, kst1_4n, kst2_4n, kst1_4i, kst2_4i, kst1_4r, kst2_4r, kst1_4z, kst2_4z, kst1_4l, kst2_4l, kcat_n, kcat_i, kcat_r, kcat_z, kcat_l, jX12_wordOf_0, bX12_wordOf_0, jX12_wordOf_12, bX12_wordOf_12, jX12_wordOf_48, bX12_wordOf_48, Nat.reduceAdd, Nat.reduceLeDiff, Nat.reduceEqDiff, Nat.reduceSub, Nat.zero_le, Nat.add_left_cancel_iff, true_and, and_true, if_true, if_false, reduceIte, ne_eq, not_false_eq_true, Nat.add_eq_left, Nat.left_eq_add, kI_sI, kL_sI, kR_sI, kK_sI, kI_sL, kL_sL, kR_sL, kK_sL, kI_sIA, kL_sIA, kR_sIA, kK_sIA, kI_sLA, kL_sLA, kR_sLA, kK_sLA]
    rw [upd_at]
  have := loop l (Nat.le_refl _) _ _ e4 f1 k1 (fun i a b => absurd b (by omega))
  rw [Nat.sub_self, Nat.pow_zero, Nat.div_one] at this
  exact this
end RF

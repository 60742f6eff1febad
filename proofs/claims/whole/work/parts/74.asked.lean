/-! words that were asked, and where they are found again -/
theorem cnt_all {p : Nat → Bool} : ∀ k, (∀ i, i < k → p i = true) → cnt p k = k
  | 0, _ => rfl
  | k + 1, h => by unfold cnt; rw [cnt_all k (fun i hi => h i (by omega)), h k (by omega)]; rfl
theorem cnt_one {p q : Nat → Bool} {k0 : Nat} (hp : p k0 = false) (hq : q k0 = true) (he : ∀ i, i ≠ k0 → q i = p i) : ∀ k, cnt q k = cnt p k + (decide (k0 < k)).toNat
  | 0 => by simp [cnt]
  | k + 1 => by
    have ih := cnt_one hp hq he k
    unfold cnt
    rw [ih]
    by_cases e : k = k0
    · subst e
      rw [hp, hq]; simp
    · rw [he k e]
      by_cases h : k0 < k
      · have : k0 < k + 1 := by omega
        simp [h, this]; omega
      · have : ¬ k0 < k + 1 := by omega
        simp [h, this]
def gA (A : List (List Nat)) (i : Nat) : List Nat := A.getD i []
theorem gA_l {A : List (List Nat)} {u : List Nat} {i : Nat} (h : i < A.length) : gA (A ++ [u]) i = gA A i := getD_l h
theorem gA_r {A : List (List Nat)} {u : List Nat} : gA (A ++ [u]) A.length = u := getD_r
theorem gA_mem {A : List (List Nat)} {i : Nat} (h : i < A.length) : gA A i ∈ A := by
  unfold gA
  rw [List.getD_eq_getElem?_getD, List.getElem?_eq_getElem h]
  exact List.getElem_mem h
theorem mem_gA {A : List (List Nat)} {u : List Nat} (h : u ∈ A) : ∃ i, i < A.length ∧ gA A i = u := by
  obtain ⟨i, hi, e⟩ := List.getElem_of_mem h
  refine ⟨i, hi, ?_⟩
  unfold gA
  rw [List.getD_eq_getElem?_getD, List.getElem?_eq_getElem hi, e]; rfl
def HT (N : Nat) (hs : List Nat → Nat) (A : List (List Nat)) (s : Nat → Nat) : Prop :=
  (∀ p, p < N → s p ≤ A.length) ∧ cnt (fun p => decide (s p ≠ 0)) N ≤ A.length ∧ ∀ i, i < A.length → ∃ d, d < N ∧ s ((hs (gA A i) + d) % N) = i + 1 ∧ ∀ e, e < d → s ((hs (gA A i) + e) % N) ≠ 0
def upN1 (s : Nat → Nat) (p v : Nat) : Nat → Nat := fun q => if q = p then v else s q
theorem HT_find {N : Nat} {hs : List Nat → Nat} {A : List (List Nat)} {s : Nat → Nat} (T : HT N hs A s) (hA : A.length < N) {u : List Nat} (hu : hs u < N) :
    ∃ d, d < N ∧ (s ((hs u + d) % N) = 0 ∧ u ∉ A ∨ ∃ i, i < A.length ∧ s ((hs u + d) % N) = i + 1 ∧ gA A i = u) ∧ ∀ e, e < d → s ((hs u + e) % N) ≠ 0 ∧ gA A (s ((hs u + e) % N) - 1) ≠ u := by
  have hz : ∃ p, p < N ∧ s p = 0 := by
    apply Classical.byContradiction
    intro z
    have : cnt (fun p => decide (s p ≠ 0)) N = N := by
      refine cnt_all N (fun i hi => ?_)
      simp only [decide_eq_true_iff]
      intro q
      exact z ⟨i, hi, q⟩
    have := T.2.1
    omega
  obtain ⟨p0, hp0, hs0⟩ := hz
  let p : Nat → Bool := fun d => decide (s ((hs u + d) % N) = 0) || decide (gA A (s ((hs u + d) % N) - 1) = u)
  have hd0 : ∃ d, d < N ∧ p d = true := by
    refine ⟨(p0 + N - hs u) % N, Nat.mod_lt _ (by omega), ?_⟩
    have : (hs u + (p0 + N - hs u) % N) % N = p0 := by
      rw [Nat.add_mod_mod, show hs u + (p0 + N - hs u) = p0 + N by omega, Nat.add_mod_right, Nat.mod_eq_of_lt hp0]
    show (decide (s ((hs u + (p0 + N - hs u) % N) % N) = 0) || _) = true
    rw [this, hs0]; simp
  have hlt : fa_first p N < N := by
    obtain ⟨d0, h1, h2⟩ := hd0
    rcases Nat.lt_or_ge (fa_first p N) N with q | q
    · exact q
    · have := fa_first_no p N d0 (by omega)
      rw [h2] at this; cases this
  refine ⟨fa_first p N, hlt, ?_, ?_⟩
  · have hy := fa_first_yes p N hlt
    have hno := fa_first_no p N
    generalize fa_first p N = d at hy hno hlt
    have hy : (decide (s ((hs u + d) % N) = 0) || decide (gA A (s ((hs u + d) % N) - 1) = u)) = true := hy
    by_cases z : s ((hs u + d) % N) = 0
    · refine Or.inl ⟨z, fun hm => ?_⟩
      obtain ⟨i, hi, e⟩ := mem_gA hm
      obtain ⟨d', h1, h2, h3⟩ := T.2.2 i hi
      rw [e] at h2 h3
      have hp : p d' = true := by
        show (decide (s ((hs u + d') % N) = 0) || decide (gA A (s ((hs u + d') % N) - 1) = u)) = true
        rw [h2, Nat.add_sub_cancel, e]; simp
      rcases Nat.lt_trichotomy d d' with q | q | q
      · exact h3 d q z
      · subst q; omega
      · have := hno d' q
        rw [hp] at this; cases this
    · right
      have hb := T.1 ((hs u + d) % N) (Nat.mod_lt _ (by omega))
      refine ⟨s ((hs u + d) % N) - 1, by omega, by omega, ?_⟩
      simpa [z] using hy
  · intro e he
    have := fa_first_no p N e he
    have : (decide (s ((hs u + e) % N) = 0) || decide (gA A (s ((hs u + e) % N) - 1) = u)) = false := this
    simpa using this
theorem HT_add {N : Nat} {hs : List Nat → Nat} {A : List (List Nat)} {s : Nat → Nat} (T : HT N hs A s) {u : List Nat} {d : Nat} (hd : d < N) (hz : s ((hs u + d) % N) = 0) (hn : ∀ e, e < d → s ((hs u + e) % N) ≠ 0) : HT N hs (A ++ [u]) (upN1 s ((hs u + d) % N) (A.length + 1)) := by
  have hp : (hs u + d) % N < N := Nat.mod_lt _ (by omega)
  generalize hq : (hs u + d) % N = p at hp hz
  refine ⟨fun q hq => ?_, ?_, fun i hi => ?_⟩
  · unfold upN1
    rw [List.length_append]
    split
    · simp
    · have := T.1 q hq
      simp; omega
  · have := cnt_one (p := fun q => decide (s q ≠ 0)) (q := fun q => decide (upN1 s p (A.length + 1) q ≠ 0)) (k0 := p) (by simp [hz]) (by simp [upN1]) (fun i hi => by simp [upN1, hi]) N
    rw [this, List.length_append, decide_eq_true hp]
    have := T.2.1
    show _ + 1 ≤ A.length + 1
    omega
  · rw [List.length_append] at hi
    by_cases e : i = A.length
    · subst e
      rw [gA_r]
      refine ⟨d, hd, ?_, fun e he => ?_⟩
      · rw [hq]; simp [upN1]
      · unfold upN1
        split
        · omega
        · exact hn e he
    · have hi2 : i < A.length := by simp at hi; omega
      rw [gA_l hi2]
      obtain ⟨d', h1, h2, h3⟩ := T.2.2 i hi2
      refine ⟨d', h1, ?_, fun e he => ?_⟩
      · unfold upN1
        rw [if_neg]
        · exact h2
        · intro z; rw [z, hz] at h2; omega
      · unfold upN1
        split
        · omega
        · exact h3 e he
/-- a word is asked -/
def askA (A : List (List Nat)) (u : List Nat) : List (List Nat) := if u ∈ A then A else A ++ [u]
noncomputable def tdB (B : GB) (u : List Nat) : Nat := (derB B u 0).toNat
theorem tdB_le (B : GB) (u : List Nat) : tdB B u ≤ 1 := by unfold tdB; cases derB B u 0 <;> simp
noncomputable def tcn (B : GB) (A : List (List Nat)) : Nat := cnt (fun i => derB B (gA A i) 0) A.length
theorem tcn_s (B : GB) (A : List (List Nat)) (u : List Nat) : tcn B (A ++ [u]) = tcn B A + tdB B u := by
  unfold tcn
  rw [List.length_append]
  show cnt _ (A.length + 1) = _
  rw [cnt, gA_r]
  congr 1
  exact cnt_congr _ (fun i hi => by rw [gA_l hi])
theorem tcn_le (B : GB) (A : List (List Nat)) : tcn B A ≤ A.length := cnt_le _ _
def aok (A : List (List Nat)) : Prop := ∀ u ∈ A, wok u ∧ 1 ≤ u.length ∧ u.length ≤ 20
theorem aok_add {A : List (List Nat)} {u : List Nat} (h : aok A) (h1 : wok u) (h2 : 1 ≤ u.length) (h3 : u.length ≤ 20) : aok (A ++ [u]) := by
  intro v hv
  rcases List.mem_append.mp hv with q | q
  · exact h v q
  · have : v = u := by simpa using q
    rw [this]; exact ⟨h1, h2, h3⟩
def hi52 (x : Int64) : Nat := x.toBitVec.toNat / 2 ^ 52
theorem hi52_lt (x : Int64) : hi52 x < 4096 := by
  unfold hi52
  have := x.toBitVec.isLt
  omega
theorem hi52_eq (x : Int64) : (klus x (nI 52)).toInt32 = nI (hi52 x) := by
  obtain ⟨n, hn, e⟩ := wb_of x
  subst e
  unfold hi52
  rw [L_lus hn (by omega), lN_i, wb_tn hn]
def hsC (u : List Nat) : Nat := hi52 (lN (cd u) * (-7046029254386353131))
theorem hsC_lt (u : List Nat) : hsC u < 4096 := hi52_lt _
theorem hsC_eq (u : List Nat) : (klus (lN (cd u) * (-7046029254386353131)) (nI 52)).toInt32 = nI (hsC u) := hi52_eq _
theorem m4096 (x : Nat) : x &&& 4095 = x % 4096 := Nat.and_two_pow_sub_one_eq_mod x 12
theorem m8192 (x : Nat) : x &&& 8191 = x % 8192 := Nat.and_two_pow_sub_one_eq_mod x 13
/-- the class's store of what was asked -/
def AC (h : KH) (B : GB) (A : List (List Nat)) : Prop := kI h 32 2 = nI A.length ∧ kI h 32 3 = nI (tcn B A) ∧ aok A ∧ (∀ i, i < A.length → kL h 33 i = lN (2 * cd (gA A i) + tdB B (gA A i))) ∧ ∃ s, (∀ p, p < 4096 → kI h 34 p = nI (s p)) ∧ HT 4096 hsC A s
section GR
variable {r : Nat} {h : KH} {Q : KO → KH → Prop} {B : GB} {A : List (List Nat)}
theorem cd_60 {u : List Nat} (h : wok u ∧ 1 ≤ u.length ∧ u.length ≤ 20) : cd u < 2 ^ 41 := cd_lt h.1 h.2.2
theorem c_X0row {i : Nat} (w : kW h) (hl : A.length ≤ 3264) (ha : aok A) (C : ∀ i, i < A.length → kL h 33 i = lN (2 * cd (gA A i) + tdB B (gA A i))) (hi : i < A.length) (H : Q (.inl (some (.long (lN (cd (gA A i)))))) h) : kCalls r yX0_row [.ref 32, .int (nI i)] h Q := by
  have c1 := C i hi
  have c2 := cd_60 (ha _ (gA_mem hi))
  have c3 := tdB_le B (gA A i)
  refine sX0_row _ _ ?_
  refine eX0_row_0 ?_
  simp only [ks_nop, ks_aload_0, ks_iload_1, ks_iconst, ks_lshr, ks_get0, ks_get3, ks_get1, ks_get2, ks_lald, ks_lret, kldi_0, kldl_0, klda_0, kldz_0, kst1_0, kst2_0, kldi_1, kldl_1, klda_1, kldz_1, kst1_1n, kst2_1n, kst1_1i, kst2_1i, kst1_1r, kst2_1r, kst1_1z, kst2_1z, kst1_1l, kst2_1l, kcat_n, kcat_i, kcat_r, kcat_z, kcat_l, jX0_row_0, bX0_row_0, Nat.reduceAdd, Nat.reduceLeDiff, Nat.reduceEqDiff, Nat.reduceSub, Nat.zero_le, Nat.add_left_cancel_iff, true_and, and_true, if_true, if_false, reduceIte, ne_eq, not_false_eq_true, Nat.add_eq_left, Nat.left_eq_add, kI_sI, kL_sI, kR_sI, kK_sI, kI_sL, kL_sL, kR_sL, kK_sL, kI_sIA, kL_sIA, kR_sIA, kK_sIA, kI_sLA, kL_sLA, kR_sLA, kK_sLA, wK_32 w, wR_32_0 w, wR_32_1 w, wK_33 w, wK_34 w]
  try simp (disch := omega) only [a_0, a_1, a_L0, a_L1, a_lt, a_le, a_eq, a_sub, a_addn, nI_add, pk_mul, a_in, nI_clamp, a_eqn, a_eqn', a_eqn2, a_n12, eq_self, a_ltn, a_ltn', a_len, a_len', a_shl1, z_shr, fa_and, fa_or, a_tb, a_tb0, a_b0, a_b1, a_bi, a_lc0, a_lcle, a_lcge, a_lclt, a_lcgt, upd_at, upd_ne, updL_at, updL_ne, Nat.reduceAdd, Nat.reduceSub, Nat.reduceMul, Nat.reduceLT, Nat.reduceLeDiff, Nat.reduceEqDiff, true_and, and_true, if_true, if_false, reduceIte, ne_eq, not_false_eq_true, not_true_eq_false, true_implies, false_implies, Nat.not_lt, Nat.not_le, Nat.le_refl, Nat.add_sub_cancel, Nat.lt_irrefl, Nat.not_lt_zero, Nat.zero_le, Nat.testBit_shiftRight, Nat.add_zero, reduceCtorEq, true_or, or_true, or_false, false_or, Bool.true_eq_false, Bool.false_eq_true, Bool.not_eq_false, Bool.not_eq_true, Decidable.not_not, c1]
  rw [L_lsr (by omega) (by omega), show (2 * cd (gA A i) + tdB B (gA A i)) / 2 ^ 1 = cd (gA A i) by omega]
  exact H
theorem c_X0isTold {i : Nat} (w : kW h) (hl : A.length ≤ 3264) (ha : aok A) (C : ∀ i, i < A.length → kL h 33 i = lN (2 * cd (gA A i) + tdB B (gA A i))) (hi : i < A.length) (H : Q (.inl (some (.int (nI (tdB B (gA A i)))))) h) : kCalls r yX0_isTold [.ref 32, .int (nI i)] h Q := by
  have c1 := C i hi
  have c2 := cd_60 (ha _ (gA_mem hi))
  have c3 := tdB_le B (gA A i)
  refine sX0_isTold _ _ ?_
  refine eX0_isTold_0 ?_
  simp only [ks_nop, ks_aload_0, ks_iload_1, ks_iconst, ks_lconst, ks_land, ks_lcmp, ks_if_eq, ks_goto, ks_get0, ks_get3, ks_get1, ks_get2, ks_lald, ks_iret1, kldi_0, kldl_0, klda_0, kldz_0, kst1_0, kst2_0, kldi_1, kldl_1, klda_1, kldz_1, kst1_1n, kst2_1n, kst1_1i, kst2_1i, kst1_1r, kst2_1r, kst1_1z, kst2_1z, kst1_1l, kst2_1l, kcat_n, kcat_i, kcat_r, kcat_z, kcat_l, jX0_isTold_0, bX0_isTold_0, jX0_isTold_17, bX0_isTold_17, jX0_isTold_18, bX0_isTold_18, Nat.reduceAdd, Nat.reduceLeDiff, Nat.reduceEqDiff, Nat.reduceSub, Nat.zero_le, Nat.add_left_cancel_iff, true_and, and_true, if_true, if_false, reduceIte, ne_eq, not_false_eq_true, Nat.add_eq_left, Nat.left_eq_add, kI_sI, kL_sI, kR_sI, kK_sI, kI_sL, kL_sL, kR_sL, kK_sL, kI_sIA, kL_sIA, kR_sIA, kK_sIA, kI_sLA, kL_sLA, kR_sLA, kK_sLA, wK_32 w, wR_32_0 w, wR_32_1 w, wK_33 w, wK_34 w]
  try simp (disch := omega) only [a_0, a_1, a_L0, a_L1, a_lt, a_le, a_eq, a_sub, a_addn, nI_add, pk_mul, a_in, nI_clamp, a_eqn, a_eqn', a_eqn2, a_n12, eq_self, a_ltn, a_ltn', a_len, a_len', a_shl1, z_shr, fa_and, fa_or, a_tb, a_tb0, a_b0, a_b1, a_bi, a_lc0, a_lcle, a_lcge, a_lclt, a_lcgt, upd_at, upd_ne, updL_at, updL_ne, Nat.reduceAdd, Nat.reduceSub, Nat.reduceMul, Nat.reduceLT, Nat.reduceLeDiff, Nat.reduceEqDiff, true_and, and_true, if_true, if_false, reduceIte, ne_eq, not_false_eq_true, not_true_eq_false, true_implies, false_implies, Nat.not_lt, Nat.not_le, Nat.le_refl, Nat.add_sub_cancel, Nat.lt_irrefl, Nat.not_lt_zero, Nat.zero_le, Nat.testBit_shiftRight, Nat.add_zero, reduceCtorEq, true_or, or_true, or_false, false_or, Bool.true_eq_false, Bool.false_eq_true, Bool.not_eq_false, Bool.not_eq_true, Decidable.not_not, c1]
  have e : lN (2 * cd (gA A i) + tdB B (gA A i)) &&& lN 1 = lN (tdB B (gA A i)) := by
    have := wb_a1 (n := 2 * cd (gA A i) + tdB B (gA A i)) (by omega)
    rw [show (1 : Int64) = lN 1 from rfl] at this
    rw [this]
    congr 1
    omega
  rw [e]
  try simp (disch := omega) only [a_0, a_1, a_L0, a_L1, a_lt, a_le, a_eq, a_sub, a_addn, nI_add, pk_mul, a_in, nI_clamp, a_eqn, a_eqn', a_eqn2, a_n12, eq_self, a_ltn, a_ltn', a_len, a_len', a_shl1, z_shr, fa_and, fa_or, a_tb, a_tb0, a_b0, a_b1, a_bi, a_lc0, a_lcle, a_lcge, a_lclt, a_lcgt, upd_at, upd_ne, updL_at, updL_ne, Nat.reduceAdd, Nat.reduceSub, Nat.reduceMul, Nat.reduceLT, Nat.reduceLeDiff, Nat.reduceEqDiff, true_and, and_true, if_true, if_false, reduceIte, ne_eq, not_false_eq_true, not_true_eq_false, true_implies, false_implies, Nat.not_lt, Nat.not_le, Nat.le_refl, Nat.add_sub_cancel, Nat.lt_irrefl, Nat.not_lt_zero, Nat.zero_le, Nat.testBit_shiftRight, Nat.add_zero, reduceCtorEq, true_or, or_true, or_false, false_or, Bool.true_eq_false, Bool.false_eq_true, Bool.not_eq_false, Bool.not_eq_true, Decidable.not_not]
  refine ⟨fun c => ?_, fun c => ?_⟩
  · refine eX0_isTold_18 ?_
    simp only [ks_nop, ks_aload_0, ks_iload_1, ks_iconst, ks_lconst, ks_land, ks_lcmp, ks_if_eq, ks_goto, ks_get0, ks_get3, ks_get1, ks_get2, ks_lald, ks_iret1, kldi_0, kldl_0, klda_0, kldz_0, kst1_0, kst2_0, kldi_1, kldl_1, klda_1, kldz_1, kst1_1n, kst2_1n, kst1_1i, kst2_1i, kst1_1r, kst2_1r, kst1_1z, kst2_1z, kst1_1l, kst2_1l, kcat_n, kcat_i, kcat_r, kcat_z, kcat_l, jX0_isTold_0, bX0_isTold_0, jX0_isTold_17, bX0_isTold_17, jX0_isTold_18, bX0_isTold_18, Nat.reduceAdd, Nat.reduceLeDiff, Nat.reduceEqDiff, Nat.reduceSub, Nat.zero_le, Nat.add_left_cancel_iff, true_and, and_true, if_true, if_false, reduceIte, ne_eq, not_false_eq_true, Nat.add_eq_left, Nat.left_eq_add, kI_sI, kL_sI, kR_sI, kK_sI, kI_sL, kL_sL, kR_sL, kK_sL, kI_sIA, kL_sIA, kR_sIA, kK_sIA, kI_sLA, kL_sLA, kR_sLA, kK_sLA]
    try simp (disch := omega) only [a_0, a_1, a_L0, a_L1, a_lt, a_le, a_eq, a_sub, a_addn, nI_add, pk_mul, a_in, nI_clamp, a_eqn, a_eqn', a_eqn2, a_n12, eq_self, a_ltn, a_ltn', a_len, a_len', a_shl1, z_shr, fa_and, fa_or, a_tb, a_tb0, a_b0, a_b1, a_bi, a_lc0, a_lcle, a_lcge, a_lclt, a_lcgt, upd_at, upd_ne, updL_at, updL_ne, Nat.reduceAdd, Nat.reduceSub, Nat.reduceMul, Nat.reduceLT, Nat.reduceLeDiff, Nat.reduceEqDiff, true_and, and_true, if_true, if_false, reduceIte, ne_eq, not_false_eq_true, not_true_eq_false, true_implies, false_implies, Nat.not_lt, Nat.not_le, Nat.le_refl, Nat.add_sub_cancel, Nat.lt_irrefl, Nat.not_lt_zero, Nat.zero_le, Nat.testBit_shiftRight, Nat.add_zero, reduceCtorEq, true_or, or_true, or_false, false_or, Bool.true_eq_false, Bool.false_eq_true, Bool.not_eq_false, Bool.not_eq_true, Decidable.not_not]
    rw [show tdB B (gA A i) = 0 by omega] at H
    exact H
  · refine eX0_isTold_18 ?_
    simp only [ks_nop, ks_aload_0, ks_iload_1, ks_iconst, ks_lconst, ks_land, ks_lcmp, ks_if_eq, ks_goto, ks_get0, ks_get3, ks_get1, ks_get2, ks_lald, ks_iret1, kldi_0, kldl_0, klda_0, kldz_0, kst1_0, kst2_0, kldi_1, kldl_1, klda_1, kldz_1, kst1_1n, kst2_1n, kst1_1i, kst2_1i, kst1_1r, kst2_1r, kst1_1z, kst2_1z, kst1_1l, kst2_1l, kcat_n, kcat_i, kcat_r, kcat_z, kcat_l, jX0_isTold_0, bX0_isTold_0, jX0_isTold_17, bX0_isTold_17, jX0_isTold_18, bX0_isTold_18, Nat.reduceAdd, Nat.reduceLeDiff, Nat.reduceEqDiff, Nat.reduceSub, Nat.zero_le, Nat.add_left_cancel_iff, true_and, and_true, if_true, if_false, reduceIte, ne_eq, not_false_eq_true, Nat.add_eq_left, Nat.left_eq_add, kI_sI, kL_sI, kR_sI, kK_sI, kI_sL, kL_sL, kR_sL, kK_sL, kI_sIA, kL_sIA, kR_sIA, kK_sIA, kI_sLA, kL_sLA, kR_sLA, kK_sLA]
    try simp (disch := omega) only [a_0, a_1, a_L0, a_L1, a_lt, a_le, a_eq, a_sub, a_addn, nI_add, pk_mul, a_in, nI_clamp, a_eqn, a_eqn', a_eqn2, a_n12, eq_self, a_ltn, a_ltn', a_len, a_len', a_shl1, z_shr, fa_and, fa_or, a_tb, a_tb0, a_b0, a_b1, a_bi, a_lc0, a_lcle, a_lcge, a_lclt, a_lcgt, upd_at, upd_ne, updL_at, updL_ne, Nat.reduceAdd, Nat.reduceSub, Nat.reduceMul, Nat.reduceLT, Nat.reduceLeDiff, Nat.reduceEqDiff, true_and, and_true, if_true, if_false, reduceIte, ne_eq, not_false_eq_true, not_true_eq_false, true_implies, false_implies, Nat.not_lt, Nat.not_le, Nat.le_refl, Nat.add_sub_cancel, Nat.lt_irrefl, Nat.not_lt_zero, Nat.zero_le, Nat.testBit_shiftRight, Nat.add_zero, reduceCtorEq, true_or, or_true, or_false, false_or, Bool.true_eq_false, Bool.false_eq_true, Bool.not_eq_false, Bool.not_eq_true, Decidable.not_not]
    rw [show tdB B (gA A i) = 1 by omega] at H
    exact H
theorem c_slotOf {u : List Nat} {s : Nat → Nat} (hr : 2 ≤ r) (w : kW h) (hl : A.length ≤ 3264) (ha : aok A) (C : ∀ i, i < A.length → kL h 33 i = lN (2 * cd (gA A i) + tdB B (gA A i))) (S : ∀ p, p < 4096 → kI h 34 p = nI (s p)) (T : HT 4096 hsC A s) (hu : wok u ∧ 1 ≤ u.length ∧ u.length ≤ 20)
    (H : ∀ p, p < 4096 → (∃ d, d < 4096 ∧ p = (hsC u + d) % 4096 ∧ s p = 0 ∧ u ∉ A ∧ ∀ e, e < d → s ((hsC u + e) % 4096) ≠ 0) ∨ (∃ i, i < A.length ∧ s p = i + 1 ∧ gA A i = u) → Q (.inl (some (.int (nI p)))) h) : kCalls r yX0_slotOf [.ref 32, .long (lN (cd u))] h Q := by
  obtain ⟨d, hd, hf, hn⟩ := HT_find T (by omega) (hsC_lt u)
  have cu := cd_60 hu
  refine sX0_slotOf _ _ ?_
  refine eX0_slotOf_0 ?_
  simp only [ks_nop, ks_aload_0, ks_lload_1, ks_iload_3, ks_iload, ks_istore_3, ks_istore, ks_iconst, ks_bipush, ks_sipush, ks_ldc2, ks_iinc, ks_iadd, ks_isub, ks_iand, ks_lmul, ks_lushr, ks_l2i, ks_lcmp, ks_if_ne, ks_if_lt, ks_icmp_ge, ks_goto, ks_get0, ks_get3, ks_get1, ks_get2, ks_iald, ks_sld, ks_inv0, ks_inv1, ks_inv2, ks_inv4, ks_inv3, ks_inv5, ks_inv6, ks_inv7, ks_inv8, ks_iret0, kldi_0, kldl_0, klda_0, kldz_0, kst1_0, kst2_0, kldi_1, kldl_1, klda_1, kldz_1, kst1_1n, kst2_1n, kst1_1i, kst2_1i, kst1_1r, kst2_1r, kst1_1z, kst2_1z, kst1_1l, kst2_1l, kldi_2, kldl_2, klda_2, kldz_2, kst1_2n, kst2_2n, kst1_2i, kst2_2i, kst1_2r, kst2_2r, kst1_2z, kst2_2z, kst1_2l, kst2_2l, kldi_3, kldl_3, klda_3, kldz_3, kst1_3n, kst2_3n, kst1_3i, kst2_3i, kst1_3r, kst2_3r, kst1_3z, kst2_3z, kst1_3l, kst2_3l, kldi_4, kldl_4, klda_4, kldz_4, kst1_4n, kst2_4n, kst1_4i, kst2_4i, kst1_4r, kst2_4r, kst1_4z, kst2_4z, kst1_4l, kst2_4l, kldi_5, kldl_5, klda_5, kldz_5, kst1_5n, kst2_5n, kst1_5i, kst2_5i, kst1_5r, kst2_5r, kst1_5z, kst2_5z, kst1_5l, kst2_5l, kpr_r, kcat_n, kcat_i, kcat_r, kcat_z, kcat_l, kargs_0, kargs_s, kret_v, kret_n, kret_x, zl_52, zl_4095, zl_4096, jX0_slotOf_0, bX0_slotOf_0, jX0_slotOf_13, bX0_slotOf_13, jX0_slotOf_47, bX0_slotOf_47, jX0_slotOf_49, bX0_slotOf_49, jX0_slotOf_63, bX0_slotOf_63, Nat.reduceAdd, Nat.reduceLeDiff, Nat.reduceEqDiff, Nat.reduceSub, Nat.zero_le, Nat.add_left_cancel_iff, true_and, and_true, if_true, if_false, reduceIte, ne_eq, not_false_eq_true, Nat.add_eq_left, Nat.left_eq_add, kI_sI, kL_sI, kR_sI, kK_sI, kI_sL, kL_sL, kR_sL, kK_sL, kI_sIA, kL_sIA, kR_sIA, kK_sIA, kI_sLA, kL_sLA, kR_sLA, kK_sLA]
  rw [hsC_eq]
  have fin : ∀ e4 e5 : Option Value, kRun r mX0_slotOf 47 [some (.ref 32), some (.long (lN (cd u))), none, some (.int (nI ((hsC u + d) % 4096))), e4, e5] [] h Q := by
    intro e4 e5
    refine eX0_slotOf_47 ?_
    simp only [ks_nop, ks_aload_0, ks_lload_1, ks_iload_3, ks_iload, ks_istore_3, ks_istore, ks_iconst, ks_bipush, ks_sipush, ks_ldc2, ks_iinc, ks_iadd, ks_isub, ks_iand, ks_lmul, ks_lushr, ks_l2i, ks_lcmp, ks_if_ne, ks_if_lt, ks_icmp_ge, ks_goto, ks_get0, ks_get3, ks_get1, ks_get2, ks_iald, ks_sld, ks_inv0, ks_inv1, ks_inv2, ks_inv4, ks_inv3, ks_inv5, ks_inv6, ks_inv7, ks_inv8, ks_iret0, kldi_0, kldl_0, klda_0, kldz_0, kst1_0, kst2_0, kldi_1, kldl_1, klda_1, kldz_1, kst1_1n, kst2_1n, kst1_1i, kst2_1i, kst1_1r, kst2_1r, kst1_1z, kst2_1z, kst1_1l, kst2_1l, kldi_2, kldl_2, klda_2, kldz_2, kst1_2n, kst2_2n, kst1_2i, kst2_2i, kst1_2r, kst2_2r, kst1_2z, kst2_2z, kst1_2l, kst2_2l, kldi_3, kldl_3, klda_3, kldz_3, kst1_3n, kst2_3n, kst1_3i, kst2_3i, kst1_3r, kst2_3r, kst1_3z, kst2_3z, kst1_3l, kst2_3l, kldi_4, kldl_4, klda_4, kldz_4, kst1_4n, kst2_4n, kst1_4i, kst2_4i, kst1_4r, kst2_4r, kst1_4z, kst2_4z, kst1_4l, kst2_4l, kldi_5, kldl_5, klda_5, kldz_5, kst1_5n, kst2_5n, kst1_5i, kst2_5i, kst1_5r, kst2_5r, kst1_5z, kst2_5z, kst1_5l, kst2_5l, kpr_r, kcat_n, kcat_i, kcat_r, kcat_z, kcat_l, kargs_0, kargs_s, kret_v, kret_n, kret_x, zl_52, zl_4095, zl_4096, jX0_slotOf_0, bX0_slotOf_0, jX0_slotOf_13, bX0_slotOf_13, jX0_slotOf_47, bX0_slotOf_47, jX0_slotOf_49, bX0_slotOf_49, jX0_slotOf_63, bX0_slotOf_63, Nat.reduceAdd, Nat.reduceLeDiff, Nat.reduceEqDiff, Nat.reduceSub, Nat.zero_le, Nat.add_left_cancel_iff, true_and, and_true, if_true, if_false, reduceIte, ne_eq, not_false_eq_true, Nat.add_eq_left, Nat.left_eq_add, kI_sI, kL_sI, kR_sI, kK_sI, kI_sL, kL_sL, kR_sL, kK_sL, kI_sIA, kL_sIA, kR_sIA, kK_sIA, kI_sLA, kL_sLA, kR_sLA, kK_sLA]
    try simp (disch := omega) only [a_0, a_1, a_L0, a_L1, a_lt, a_le, a_eq, a_sub, a_addn, nI_add, pk_mul, a_in, nI_clamp, a_eqn, a_eqn', a_eqn2, a_n12, eq_self, a_ltn, a_ltn', a_len, a_len', a_shl1, z_shr, fa_and, fa_or, a_tb, a_tb0, a_b0, a_b1, a_bi, a_lc0, a_lcle, a_lcge, a_lclt, a_lcgt, upd_at, upd_ne, updL_at, updL_ne, Nat.reduceAdd, Nat.reduceSub, Nat.reduceMul, Nat.reduceLT, Nat.reduceLeDiff, Nat.reduceEqDiff, true_and, and_true, if_true, if_false, reduceIte, ne_eq, not_false_eq_true, not_true_eq_false, true_implies, false_implies, Nat.not_lt, Nat.not_le, Nat.le_refl, Nat.add_sub_cancel, Nat.lt_irrefl, Nat.not_lt_zero, Nat.zero_le, Nat.testBit_shiftRight, Nat.add_zero, reduceCtorEq, true_or, or_true, or_false, false_or, Bool.true_eq_false, Bool.false_eq_true, Bool.not_eq_false, Bool.not_eq_true, Decidable.not_not]
    refine H _ (Nat.mod_lt _ (by omega)) ?_
    rcases hf with ⟨a, b⟩ | a
    · exact Or.inl ⟨d, hd, rfl, a, b, fun e he => (hn e he).1⟩
    · exact Or.inr a
  have loop : ∀ e, e ≤ d → ∀ e5 : Option Value, kRun r mX0_slotOf 13 [some (.ref 32), some (.long (lN (cd u))), none, some (.int (nI ((hsC u + e) % 4096))), some (.int (nI e)), e5] [] h Q := by
    refine up_ind ?_ (fun e he ih => ?_)
    · intro e5
      have hp : (hsC u + d) % 4096 < 4096 := Nat.mod_lt _ (by omega)
      have s1 := S _ hp
      rcases hf with ⟨a, b⟩ | ⟨i, a, b, c⟩
      · rw [a] at s1
        refine eX0_slotOf_13 ?_
        simp only [ks_nop, ks_aload_0, ks_lload_1, ks_iload_3, ks_iload, ks_istore_3, ks_istore, ks_iconst, ks_bipush, ks_sipush, ks_ldc2, ks_iinc, ks_iadd, ks_isub, ks_iand, ks_lmul, ks_lushr, ks_l2i, ks_lcmp, ks_if_ne, ks_if_lt, ks_icmp_ge, ks_goto, ks_get0, ks_get3, ks_get1, ks_get2, ks_iald, ks_sld, ks_inv0, ks_inv1, ks_inv2, ks_inv4, ks_inv3, ks_inv5, ks_inv6, ks_inv7, ks_inv8, ks_iret0, kldi_0, kldl_0, klda_0, kldz_0, kst1_0, kst2_0, kldi_1, kldl_1, klda_1, kldz_1, kst1_1n, kst2_1n, kst1_1i, kst2_1i, kst1_1r, kst2_1r, kst1_1z, kst2_1z, kst1_1l, kst2_1l, kldi_2, kldl_2, klda_2, kldz_2, kst1_2n, kst2_2n, kst1_2i, kst2_2i, kst1_2r, kst2_2r, kst1_2z, kst2_2z, kst1_2l, kst2_2l, kldi_3, kldl_3, klda_3, kldz_3, kst1_3n, kst2_3n, kst1_3i, kst2_3i, kst1_3r, kst2_3r, kst1_3z, kst2_3z, kst1_3l, kst2_3l, kldi_4, kldl_4, klda_4, kldz_4, kst1_4n, kst2_4n, kst1_4i, kst2_4i, kst1_4r, kst2_4r, kst1_4z, kst2_4z, kst1_4l, kst2_4l, kldi_5, kldl_5, klda_5, kldz_5, kst1_5n, kst2_5n, kst1_5i, kst2_5i, kst1_5r, kst2_5r, kst1_5z, kst2_5z, kst1_5l, kst2_5l, kpr_r, kcat_n, kcat_i, kcat_r, kcat_z, kcat_l, kargs_0, kargs_s, kret_v, kret_n, kret_x, zl_52, zl_4095, zl_4096, jX0_slotOf_0, bX0_slotOf_0, jX0_slotOf_13, bX0_slotOf_13, jX0_slotOf_47, bX0_slotOf_47, jX0_slotOf_49, bX0_slotOf_49, jX0_slotOf_63, bX0_slotOf_63, Nat.reduceAdd, Nat.reduceLeDiff, Nat.reduceEqDiff, Nat.reduceSub, Nat.zero_le, Nat.add_left_cancel_iff, true_and, and_true, if_true, if_false, reduceIte, ne_eq, not_false_eq_true, Nat.add_eq_left, Nat.left_eq_add, kI_sI, kL_sI, kR_sI, kK_sI, kI_sL, kL_sL, kR_sL, kK_sL, kI_sIA, kL_sIA, kR_sIA, kK_sIA, kI_sLA, kL_sLA, kR_sLA, kK_sLA, wK_32 w, wR_32_0 w, wR_32_1 w, wK_33 w, wK_34 w, s1, hr]
        try simp (disch := omega) only [a_0, a_1, a_L0, a_L1, a_lt, a_le, a_eq, a_sub, a_addn, nI_add, pk_mul, a_in, nI_clamp, a_eqn, a_eqn', a_eqn2, a_n12, eq_self, a_ltn, a_ltn', a_len, a_len', a_shl1, z_shr, fa_and, fa_or, a_tb, a_tb0, a_b0, a_b1, a_bi, a_lc0, a_lcle, a_lcge, a_lclt, a_lcgt, upd_at, upd_ne, updL_at, updL_ne, Nat.reduceAdd, Nat.reduceSub, Nat.reduceMul, Nat.reduceLT, Nat.reduceLeDiff, Nat.reduceEqDiff, true_and, and_true, if_true, if_false, reduceIte, ne_eq, not_false_eq_true, not_true_eq_false, true_implies, false_implies, Nat.not_lt, Nat.not_le, Nat.le_refl, Nat.add_sub_cancel, Nat.lt_irrefl, Nat.not_lt_zero, Nat.zero_le, Nat.testBit_shiftRight, Nat.add_zero, reduceCtorEq, true_or, or_true, or_false, false_or, Bool.true_eq_false, Bool.false_eq_true, Bool.not_eq_false, Bool.not_eq_true, Decidable.not_not, wK_32 w, wR_32_0 w, wR_32_1 w, wK_33 w, wK_34 w, s1, hr]
        repeat (first | refine ⟨fun _ => ?_, fun c => absurd c (by omega)⟩ | refine ⟨fun c => absurd c (by omega), fun _ => ?_⟩)
        exact ⟨fun _ => fin _ _, fun c => absurd (show nI 0 - nI 1 < nI 0 by decide) c⟩
      · rw [b] at s1
        refine eX0_slotOf_13 ?_
        simp only [ks_nop, ks_aload_0, ks_lload_1, ks_iload_3, ks_iload, ks_istore_3, ks_istore, ks_iconst, ks_bipush, ks_sipush, ks_ldc2, ks_iinc, ks_iadd, ks_isub, ks_iand, ks_lmul, ks_lushr, ks_l2i, ks_lcmp, ks_if_ne, ks_if_lt, ks_icmp_ge, ks_goto, ks_get0, ks_get3, ks_get1, ks_get2, ks_iald, ks_sld, ks_inv0, ks_inv1, ks_inv2, ks_inv4, ks_inv3, ks_inv5, ks_inv6, ks_inv7, ks_inv8, ks_iret0, kldi_0, kldl_0, klda_0, kldz_0, kst1_0, kst2_0, kldi_1, kldl_1, klda_1, kldz_1, kst1_1n, kst2_1n, kst1_1i, kst2_1i, kst1_1r, kst2_1r, kst1_1z, kst2_1z, kst1_1l, kst2_1l, kldi_2, kldl_2, klda_2, kldz_2, kst1_2n, kst2_2n, kst1_2i, kst2_2i, kst1_2r, kst2_2r, kst1_2z, kst2_2z, kst1_2l, kst2_2l, kldi_3, kldl_3, klda_3, kldz_3, kst1_3n, kst2_3n, kst1_3i, kst2_3i, kst1_3r, kst2_3r, kst1_3z, kst2_3z, kst1_3l, kst2_3l, kldi_4, kldl_4, klda_4, kldz_4, kst1_4n, kst2_4n, kst1_4i, kst2_4i, kst1_4r, kst2_4r, kst1_4z, kst2_4z, kst1_4l, kst2_4l, kldi_5, kldl_5, klda_5, kldz_5, kst1_5n, kst2_5n, kst1_5i, kst2_5i, kst1_5r, kst2_5r, kst1_5z, kst2_5z, kst1_5l, kst2_5l, kpr_r, kcat_n, kcat_i, kcat_r, kcat_z, kcat_l, kargs_0, kargs_s, kret_v, kret_n, kret_x, zl_52, zl_4095, zl_4096, jX0_slotOf_0, bX0_slotOf_0, jX0_slotOf_13, bX0_slotOf_13, jX0_slotOf_47, bX0_slotOf_47, jX0_slotOf_49, bX0_slotOf_49, jX0_slotOf_63, bX0_slotOf_63, Nat.reduceAdd, Nat.reduceLeDiff, Nat.reduceEqDiff, Nat.reduceSub, Nat.zero_le, Nat.add_left_cancel_iff, true_and, and_true, if_true, if_false, reduceIte, ne_eq, not_false_eq_true, Nat.add_eq_left, Nat.left_eq_add, kI_sI, kL_sI, kR_sI, kK_sI, kI_sL, kL_sL, kR_sL, kK_sL, kI_sIA, kL_sIA, kR_sIA, kK_sIA, kI_sLA, kL_sLA, kR_sLA, kK_sLA, wK_32 w, wR_32_0 w, wR_32_1 w, wK_33 w, wK_34 w, s1, hr]
        try simp (disch := omega) only [a_0, a_1, a_L0, a_L1, a_lt, a_le, a_eq, a_sub, a_addn, nI_add, pk_mul, a_in, nI_clamp, a_eqn, a_eqn', a_eqn2, a_n12, eq_self, a_ltn, a_ltn', a_len, a_len', a_shl1, z_shr, fa_and, fa_or, a_tb, a_tb0, a_b0, a_b1, a_bi, a_lc0, a_lcle, a_lcge, a_lclt, a_lcgt, upd_at, upd_ne, updL_at, updL_ne, Nat.reduceAdd, Nat.reduceSub, Nat.reduceMul, Nat.reduceLT, Nat.reduceLeDiff, Nat.reduceEqDiff, true_and, and_true, if_true, if_false, reduceIte, ne_eq, not_false_eq_true, not_true_eq_false, true_implies, false_implies, Nat.not_lt, Nat.not_le, Nat.le_refl, Nat.add_sub_cancel, Nat.lt_irrefl, Nat.not_lt_zero, Nat.zero_le, Nat.testBit_shiftRight, Nat.add_zero, reduceCtorEq, true_or, or_true, or_false, false_or, Bool.true_eq_false, Bool.false_eq_true, Bool.not_eq_false, Bool.not_eq_true, Decidable.not_not, wK_32 w, wR_32_0 w, wR_32_1 w, wK_33 w, wK_34 w, s1, hr]
        repeat (first | refine ⟨fun _ => ?_, fun c => absurd c (by omega)⟩ | refine ⟨fun c => absurd c (by omega), fun _ => ?_⟩)
        refine c_X0row w hl ha C a ?_
        rw [c]
        simp only [ks_nop, ks_aload_0, ks_lload_1, ks_iload_3, ks_iload, ks_istore_3, ks_istore, ks_iconst, ks_bipush, ks_sipush, ks_ldc2, ks_iinc, ks_iadd, ks_isub, ks_iand, ks_lmul, ks_lushr, ks_l2i, ks_lcmp, ks_if_ne, ks_if_lt, ks_icmp_ge, ks_goto, ks_get0, ks_get3, ks_get1, ks_get2, ks_iald, ks_sld, ks_inv0, ks_inv1, ks_inv2, ks_inv4, ks_inv3, ks_inv5, ks_inv6, ks_inv7, ks_inv8, ks_iret0, kldi_0, kldl_0, klda_0, kldz_0, kst1_0, kst2_0, kldi_1, kldl_1, klda_1, kldz_1, kst1_1n, kst2_1n, kst1_1i, kst2_1i, kst1_1r, kst2_1r, kst1_1z, kst2_1z, kst1_1l, kst2_1l, kldi_2, kldl_2, klda_2, kldz_2, kst1_2n, kst2_2n, kst1_2i, kst2_2i, kst1_2r, kst2_2r, kst1_2z, kst2_2z, kst1_2l, kst2_2l, kldi_3, kldl_3, klda_3, kldz_3, kst1_3n, kst2_3n, kst1_3i, kst2_3i, kst1_3r, kst2_3r, kst1_3z, kst2_3z, kst1_3l, kst2_3l, kldi_4, kldl_4, klda_4, kldz_4, kst1_4n, kst2_4n, kst1_4i, kst2_4i, kst1_4r, kst2_4r, kst1_4z, kst2_4z, kst1_4l, kst2_4l, kldi_5, kldl_5, klda_5, kldz_5, kst1_5n, kst2_5n, kst1_5i, kst2_5i, kst1_5r, kst2_5r, kst1_5z, kst2_5z, kst1_5l, kst2_5l, kpr_r, kcat_n, kcat_i, kcat_r, kcat_z, kcat_l, kargs_0, kargs_s, kret_v, kret_n, kret_x, zl_52, zl_4095, zl_4096, jX0_slotOf_0, bX0_slotOf_0, jX0_slotOf_13, bX0_slotOf_13, jX0_slotOf_47, bX0_slotOf_47, jX0_slotOf_49, bX0_slotOf_49, jX0_slotOf_63, bX0_slotOf_63, Nat.reduceAdd, Nat.reduceLeDiff, Nat.reduceEqDiff, Nat.reduceSub, Nat.zero_le, Nat.add_left_cancel_iff, true_and, and_true, if_true, if_false, reduceIte, ne_eq, not_false_eq_true, Nat.add_eq_left, Nat.left_eq_add, kI_sI, kL_sI, kR_sI, kK_sI, kI_sL, kL_sL, kR_sL, kK_sL, kI_sIA, kL_sIA, kR_sIA, kK_sIA, kI_sLA, kL_sLA, kR_sLA, kK_sLA]
        try simp (disch := omega) only [a_0, a_1, a_L0, a_L1, a_lt, a_le, a_eq, a_sub, a_addn, nI_add, pk_mul, a_in, nI_clamp, a_eqn, a_eqn', a_eqn2, a_n12, eq_self, a_ltn, a_ltn', a_len, a_len', a_shl1, z_shr, fa_and, fa_or, a_tb, a_tb0, a_b0, a_b1, a_bi, a_lc0, a_lcle, a_lcge, a_lclt, a_lcgt, upd_at, upd_ne, updL_at, updL_ne, Nat.reduceAdd, Nat.reduceSub, Nat.reduceMul, Nat.reduceLT, Nat.reduceLeDiff, Nat.reduceEqDiff, true_and, and_true, if_true, if_false, reduceIte, ne_eq, not_false_eq_true, not_true_eq_false, true_implies, false_implies, Nat.not_lt, Nat.not_le, Nat.le_refl, Nat.add_sub_cancel, Nat.lt_irrefl, Nat.not_lt_zero, Nat.zero_le, Nat.testBit_shiftRight, Nat.add_zero, reduceCtorEq, true_or, or_true, or_false, false_or, Bool.true_eq_false, Bool.false_eq_true, Bool.not_eq_false, Bool.not_eq_true, Decidable.not_not]
        exact fin _ _
    · intro e5
      have hp : (hsC u + e) % 4096 < 4096 := Nat.mod_lt _ (by omega)
      have s1 := S _ hp
      obtain ⟨n1, n2⟩ := hn e he
      have n3 := T.1 _ hp
      refine eX0_slotOf_13 ?_
      simp only [ks_nop, ks_aload_0, ks_lload_1, ks_iload_3, ks_iload, ks_istore_3, ks_istore, ks_iconst, ks_bipush, ks_sipush, ks_ldc2, ks_iinc, ks_iadd, ks_isub, ks_iand, ks_lmul, ks_lushr, ks_l2i, ks_lcmp, ks_if_ne, ks_if_lt, ks_icmp_ge, ks_goto, ks_get0, ks_get3, ks_get1, ks_get2, ks_iald, ks_sld, ks_inv0, ks_inv1, ks_inv2, ks_inv4, ks_inv3, ks_inv5, ks_inv6, ks_inv7, ks_inv8, ks_iret0, kldi_0, kldl_0, klda_0, kldz_0, kst1_0, kst2_0, kldi_1, kldl_1, klda_1, kldz_1, kst1_1n, kst2_1n, kst1_1i, kst2_1i, kst1_1r, kst2_1r, kst1_1z, kst2_1z, kst1_1l, kst2_1l, kldi_2, kldl_2, klda_2, kldz_2, kst1_2n, kst2_2n, kst1_2i, kst2_2i, kst1_2r, kst2_2r, kst1_2z, kst2_2z, kst1_2l, kst2_2l, kldi_3, kldl_3, klda_3, kldz_3, kst1_3n, kst2_3n, kst1_3i, kst2_3i, kst1_3r, kst2_3r, kst1_3z, kst2_3z, kst1_3l, kst2_3l, kldi_4, kldl_4, klda_4, kldz_4, kst1_4n, kst2_4n, kst1_4i, kst2_4i, kst1_4r, kst2_4r, kst1_4z, kst2_4z, kst1_4l, kst2_4l, kldi_5, kldl_5, klda_5, kldz_5, kst1_5n, kst2_5n, kst1_5i, kst2_5i, kst1_5r, kst2_5r, kst1_5z, kst2_5z, kst1_5l, kst2_5l, kpr_r, kcat_n, kcat_i, kcat_r, kcat_z, kcat_l, kargs_0, kargs_s, kret_v, kret_n, kret_x, zl_52, zl_4095, zl_4096, jX0_slotOf_0, bX0_slotOf_0, jX0_slotOf_13, bX0_slotOf_13, jX0_slotOf_47, bX0_slotOf_47, jX0_slotOf_49, bX0_slotOf_49, jX0_slotOf_63, bX0_slotOf_63, Nat.reduceAdd, Nat.reduceLeDiff, Nat.reduceEqDiff, Nat.reduceSub, Nat.zero_le, Nat.add_left_cancel_iff, true_and, and_true, if_true, if_false, reduceIte, ne_eq, not_false_eq_true, Nat.add_eq_left, Nat.left_eq_add, kI_sI, kL_sI, kR_sI, kK_sI, kI_sL, kL_sL, kR_sL, kK_sL, kI_sIA, kL_sIA, kR_sIA, kK_sIA, kI_sLA, kL_sLA, kR_sLA, kK_sLA, wK_32 w, wR_32_0 w, wR_32_1 w, wK_33 w, wK_34 w, s1, hr]
      try simp (disch := omega) only [a_0, a_1, a_L0, a_L1, a_lt, a_le, a_eq, a_sub, a_addn, nI_add, pk_mul, a_in, nI_clamp, a_eqn, a_eqn', a_eqn2, a_n12, eq_self, a_ltn, a_ltn', a_len, a_len', a_shl1, z_shr, fa_and, fa_or, a_tb, a_tb0, a_b0, a_b1, a_bi, a_lc0, a_lcle, a_lcge, a_lclt, a_lcgt, upd_at, upd_ne, updL_at, updL_ne, Nat.reduceAdd, Nat.reduceSub, Nat.reduceMul, Nat.reduceLT, Nat.reduceLeDiff, Nat.reduceEqDiff, true_and, and_true, if_true, if_false, reduceIte, ne_eq, not_false_eq_true, not_true_eq_false, true_implies, false_implies, Nat.not_lt, Nat.not_le, Nat.le_refl, Nat.add_sub_cancel, Nat.lt_irrefl, Nat.not_lt_zero, Nat.zero_le, Nat.testBit_shiftRight, Nat.add_zero, reduceCtorEq, true_or, or_true, or_false, false_or, Bool.true_eq_false, Bool.false_eq_true, Bool.not_eq_false, Bool.not_eq_true, Decidable.not_not, wK_32 w, wR_32_0 w, wR_32_1 w, wK_33 w, wK_34 w, s1, hr]
      repeat (first | refine ⟨fun _ => ?_, fun c => absurd c (by omega)⟩ | refine ⟨fun c => absurd c (by omega), fun _ => ?_⟩)
      have hi : s ((hsC u + e) % 4096) - 1 < A.length := by omega
      refine c_X0row w hl ha C hi ?_
      have c2 := cd_60 (ha _ (gA_mem hi))
      simp only [ks_nop, ks_aload_0, ks_lload_1, ks_iload_3, ks_iload, ks_istore_3, ks_istore, ks_iconst, ks_bipush, ks_sipush, ks_ldc2, ks_iinc, ks_iadd, ks_isub, ks_iand, ks_lmul, ks_lushr, ks_l2i, ks_lcmp, ks_if_ne, ks_if_lt, ks_icmp_ge, ks_goto, ks_get0, ks_get3, ks_get1, ks_get2, ks_iald, ks_sld, ks_inv0, ks_inv1, ks_inv2, ks_inv4, ks_inv3, ks_inv5, ks_inv6, ks_inv7, ks_inv8, ks_iret0, kldi_0, kldl_0, klda_0, kldz_0, kst1_0, kst2_0, kldi_1, kldl_1, klda_1, kldz_1, kst1_1n, kst2_1n, kst1_1i, kst2_1i, kst1_1r, kst2_1r, kst1_1z, kst2_1z, kst1_1l, kst2_1l, kldi_2, kldl_2, klda_2, kldz_2, kst1_2n, kst2_2n, kst1_2i, kst2_2i, kst1_2r, kst2_2r, kst1_2z, kst2_2z, kst1_2l, kst2_2l, kldi_3, kldl_3, klda_3, kldz_3, kst1_3n, kst2_3n, kst1_3i, kst2_3i, kst1_3r, kst2_3r, kst1_3z, kst2_3z, kst1_3l, kst2_3l, kldi_4, kldl_4, klda_4, kldz_4, kst1_4n, kst2_4n, kst1_4i, kst2_4i, kst1_4r, kst2_4r, kst1_4z, kst2_4z, kst1_4l, kst2_4l, kldi_5, kldl_5, klda_5, kldz_5, kst1_5n, kst2_5n, kst1_5i, kst2_5i, kst1_5r, kst2_5r, kst1_5z, kst2_5z, kst1_5l, kst2_5l, kpr_r, kcat_n, kcat_i, kcat_r, kcat_z, kcat_l, kargs_0, kargs_s, kret_v, kret_n, kret_x, zl_52, zl_4095, zl_4096, jX0_slotOf_0, bX0_slotOf_0, jX0_slotOf_13, bX0_slotOf_13, jX0_slotOf_47, bX0_slotOf_47, jX0_slotOf_49, bX0_slotOf_49, jX0_slotOf_63, bX0_slotOf_63, Nat.reduceAdd, Nat.reduceLeDiff, Nat.reduceEqDiff, Nat.reduceSub, Nat.zero_le, Nat.add_left_cancel_iff, true_and, and_true, if_true, if_false, reduceIte, ne_eq, not_false_eq_true, Nat.add_eq_left, Nat.left_eq_add, kI_sI, kL_sI, kR_sI, kK_sI, kI_sL, kL_sL, kR_sL, kK_sL, kI_sIA, kL_sIA, kR_sIA, kK_sIA, kI_sLA, kL_sLA, kR_sLA, kK_sLA]
      try simp (disch := omega) only [a_0, a_1, a_L0, a_L1, a_lt, a_le, a_eq, a_sub, a_addn, nI_add, pk_mul, a_in, nI_clamp, a_eqn, a_eqn', a_eqn2, a_n12, eq_self, a_ltn, a_ltn', a_len, a_len', a_shl1, z_shr, fa_and, fa_or, a_tb, a_tb0, a_b0, a_b1, a_bi, a_lc0, a_lcle, a_lcge, a_lclt, a_lcgt, upd_at, upd_ne, updL_at, updL_ne, Nat.reduceAdd, Nat.reduceSub, Nat.reduceMul, Nat.reduceLT, Nat.reduceLeDiff, Nat.reduceEqDiff, true_and, and_true, if_true, if_false, reduceIte, ne_eq, not_false_eq_true, not_true_eq_false, true_implies, false_implies, Nat.not_lt, Nat.not_le, Nat.le_refl, Nat.add_sub_cancel, Nat.lt_irrefl, Nat.not_lt_zero, Nat.zero_le, Nat.testBit_shiftRight, Nat.add_zero, reduceCtorEq, true_or, or_true, or_false, false_or, Bool.true_eq_false, Bool.false_eq_true, Bool.not_eq_false, Bool.not_eq_true, Decidable.not_not]
      refine ⟨fun c => ?_, fun c => ?_⟩
      · have := ih (some (.int (nI (s ((hsC u + e) % 4096) - 1))))
        rw [m4096, Nat.mod_add_mod]
        exact this
      · exact absurd (cd_inj (ha _ (gA_mem hi)).1 hu.1 c) n2
  have l0 := loop 0 (by omega) none
  rw [Nat.add_zero, Nat.mod_eq_of_lt (hsC_lt u)] at l0
  exact l0
end GR

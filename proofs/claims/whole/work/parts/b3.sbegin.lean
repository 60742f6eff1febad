/-! short words: reach, row, begin; changes that make new arrays -/
/-- ints of S, longs of T, labels at D changed; what is new lies behind -/
def FX (S T : List Nat) (D : List (Nat × Nat)) (h h' : KH) : Prop := kN h ≤ kN h' ∧ (∀ x, ¬ (kN h < x ∧ x ≤ kN h') → x ∉ S → kI h' x = kI h x) ∧ (∀ x, ¬ (kN h < x ∧ x ≤ kN h') → x ∉ T → kL h' x = kL h x) ∧ (∀ x, ¬ (kN h < x ∧ x ≤ kN h') → kK h' x = kK h x) ∧ ∀ x j, ¬ (kN h < x ∧ x ≤ kN h') → (x, j) ∉ D → kR h' x j = kR h x j
section FXS
variable {S T S1 T1 : List Nat} {D D1 : List (Nat × Nat)} {h h1 h2 : KH}
theorem FX_rf (S T : List Nat) (D : List (Nat × Nat)) (h : KH) : FX S T D h h := ⟨Nat.le_refl _, fun _ _ _ => rfl, fun _ _ _ => rfl, fun _ _ => rfl, fun _ _ _ _ => rfl⟩
theorem FX_tr (f : FX S T D h h1) (g : FX S1 T1 D1 h1 h2) (hS : ∀ x ∈ S1, x ∈ S) (hT : ∀ x ∈ T1, x ∈ T) (hD : ∀ x ∈ D1, x ∈ D) : FX S T D h h2 := by
  obtain ⟨a1, a2, a3, a4, a5⟩ := f
  obtain ⟨b1, b2, b3, b4, b5⟩ := g
  exact ⟨Nat.le_trans a1 b1, fun x hx hq => (b2 x (by omega) (fun z => hq (hS x z))).trans (a2 x (by omega) hq), fun x hx hq => (b3 x (by omega) (fun z => hq (hT x z))).trans (a3 x (by omega) hq), fun x hx => (b4 x (by omega)).trans (a4 x (by omega)), fun x j hx hq => (b5 x j (by omega) (fun z => hq (hD _ z))).trans (a5 x j (by omega) hq)⟩
theorem FX_of (f : Fr S T h h1) : FX S T D h h1 := by
  refine ⟨?_, fun x _ hq => f.2.1 x hq, fun x _ hq => f.2.2 x hq, fun x _ => ?_, fun x j _ _ => ?_⟩
  · rw [Fr_N f]; exact Nat.le_refl _
  · rw [Fr_K f]
  · rw [Fr_R f]
theorem FX_sI (f : FX S T D h h1) {a j : Nat} {v : Int32} (ha : a ∈ S) : FX S T D h (sI h1 a j v) :=
  ⟨f.1, fun x hx hq => by rw [kI_sI, if_neg (fun e : x = a => hq (by rw [e]; exact ha))]; exact f.2.1 x hx hq, f.2.2⟩
theorem FX_sL (f : FX S T D h h1) {a j : Nat} {v : Int64} (ha : a ∈ T) : FX S T D h (sL h1 a j v) :=
  ⟨f.1, f.2.1, fun x hx hq => by rw [kL_sL, if_neg (fun e : x = a => hq (by rw [e]; exact ha))]; exact f.2.2.1 x hx hq, f.2.2.2⟩
theorem FX_sR (f : FX S T D h h1) {a j v : Nat} (ha : (a, j) ∈ D) : FX S T D h (sR h1 a j v) := by
  refine ⟨f.1, f.2.1, f.2.2.1, f.2.2.2.1, fun x k hx hq => ?_⟩
  rw [kR_sR]
  by_cases e : x = a
  · subst e
    rw [if_pos rfl]
    show (if k = j then v else kR h1 x k) = _
    rw [if_neg (fun e : k = j => hq (by rw [e]; exact ha))]
    exact f.2.2.2.2 x k hx hq
  · rw [if_neg e]; exact f.2.2.2.2 x k hx hq
theorem FX_new (f : FX S T D h h1) {kd : Nat × Nat} {n : Nat} : FX S T D h (knew h1 kd n) := by
  obtain ⟨a1, a2, a3, a4, a5⟩ := f
  refine ⟨?_, fun x hx hq => ?_, fun x hx hq => ?_, fun x hx => ?_, fun x j hx hq => ?_⟩
  · rw [kN_new]; omega
  · rw [kN_new] at hx; rw [kI_new, if_neg (by omega)]; exact a2 x (by omega) hq
  · rw [kN_new] at hx; rw [kL_new, if_neg (by omega)]; exact a3 x (by omega) hq
  · rw [kN_new] at hx; rw [kK_new, if_neg (by omega)]; exact a4 x (by omega)
  · rw [kN_new] at hx; rw [kR_new, if_neg (by omega)]; exact a5 x j (by omega) hq
/-- what a stretch has made: cells, slots -/
def GR (c s : Nat) (h h' : KH) : Prop := kC h' ≤ kC h + c ∧ kS h' ≤ kS h + s
theorem Fr_C (f : Fr S T h h1) : kC h1 = kC h := by unfold kC; rw [f.1]
theorem Fr_S (f : Fr S T h h1) : kS h1 = kS h := by unfold kS; rw [f.1]
theorem GR_of {c s : Nat} (f : Fr S T h h1) : GR c s h h1 := by
  have := Fr_C f
  have := Fr_S f
  exact ⟨by omega, by omega⟩
theorem GR_rf (c s : Nat) (h : KH) : GR c s h h := ⟨Nat.le_add_right _ _, Nat.le_add_right _ _⟩
theorem GR_fr {c s : Nat} (g : GR c s h h1) (f : Fr S T h1 h2) : GR c s h h2 := by
  have := Fr_C f
  have := Fr_S f
  obtain ⟨g1, g2⟩ := g
  exact ⟨by omega, by omega⟩
theorem GR_pre {c s : Nat} (f : Fr S T h h1) (g : GR c s h1 h2) : GR c s h h2 := by
  have := Fr_C f
  have := Fr_S f
  obtain ⟨g1, g2⟩ := g
  exact ⟨by omega, by omega⟩
theorem GR_new {s n a j v : Nat} {kd : Nat × Nat} (hn : n ≤ s) (h : KH) : GR 1 s h (sR (knew h kd n) a j v) := ⟨Nat.le_refl _, Nat.add_le_add_left hn _⟩
/-- rows of short words: kept, or made anew because they were too short -/
def G4 (N N' n : Nat) (h h' : KH) : Prop := (N' = N ∧ kC h' = kC h ∧ kS h' = kS h) ∨ (N < n ∧ N' = n ∧ kC h' = kC h + 4 ∧ kS h' = kS h + 4 * n)
def dynD : List (Nat × Nat) := [(1, 0), (1, 1), (28, 3), (50, 2), (55, 1), (55, 4), (55, 5), (55, 6), (55, 7), (64, 0)]
theorem dyn_ok : ∀ q ∈ kWR, (q.1, q.2.1) ∉ dynD ∧ q.1 ≤ 105 := by decide
theorem dyn_ok2 : ∀ q ∈ kWK, q.1 ≤ 105 := by decide
theorem FX_W (f : FX S T D h h1) (hD : ∀ x ∈ D, x ∈ dynD) (hn : 105 ≤ kN h) (w : kW h) : kW h1 := by
  refine ⟨fun q hq => ?_, fun q hq => ?_⟩
  · have d := dyn_ok q hq
    rw [f.2.2.2.2 q.1 q.2.1 (by omega) (fun z => d.1 (hD _ z))]
    exact w.1 q hq
  · rw [f.2.2.2.1 q.1 (by have := dyn_ok2 q hq; omega)]
    exact w.2 q hq
theorem FX_Fr (f : FX S T D h h1) : Fr (S ++ List.range' (kN h + 1) (kN h1 - kN h)) (T ++ List.range' (kN h + 1) (kN h1 - kN h)) h (h1.1, h1.2.1, h.2.2) := by
  refine ⟨rfl, fun x hx => ?_, fun x hx => ?_⟩
  · rw [List.mem_append] at hx
    refine f.2.1 x (fun q => hx (Or.inr ?_)) (fun q => hx (Or.inl q))
    rw [List.mem_range'_1]; omega
  · rw [List.mem_append] at hx
    refine f.2.2.1 x (fun q => hx (Or.inr ?_)) (fun q => hx (Or.inl q))
    rw [List.mem_range'_1]; omega
end FXS
section SW
variable {r : Nat} {h : KH} {Q : KO → KH → Prop} {B : GB} {nn : Nat} {P : List (List Nat)} {C : CL} {a b c d N g : Nat}
theorem c_reach {l t m : Nat} (hr : 4 ≤ r) (w : kW h) (hg : isG g) (G : GQ h g B nn) (hR : kR h 55 1 = g) (A : AMS h B) (L : SWL h a b c d N) (hN : fFr (sgl B).length 7 ≤ N) (hN2 : N ≤ 100000) (hC : COK C) (R : RU h B P C) (h6 : l ≤ 6)
    (ht : kI h 55 8 = nI t) (hm : kI h 55 9 = nI m) (t6 : t ≤ 6) (m6 : m ≤ 6) (T : SWT h a b c B t) (S : SWH h d B P C m)
    (H : ∀ h', Fr [55, c, d] [a, b] h h' → kI h' 55 8 = nI (max t l) → kI h' 55 9 = nI (max m l) → SWT h' a b c B (max t l) → SWH h' d B P C (max m l) → Q (.inl none) h') : kCalls r yX6_reach [.ref 55, .int (nI l)] h Q := by
  have r2 : 2 ≤ r := by omega
  have w0 := w
  have L0 := L
  obtain ⟨_, ⟨ka, kb, kc, kd⟩, ⟨da, db, dc, dd⟩, nab⟩ := L
  have ncd : c ≠ d := by
    intro e
    rw [e, kd] at kc
    cases kc
  have d1 := dc
  have d2 := dd
  unfold isD at d1 d2
  have st : ∀ h', Fr [55, c, d] [a, b] h h' → kW h' ∧ SWL h' a b c d N ∧ AMS h' B ∧ GQ h' g B nn ∧ kR h' 55 1 = g ∧ RU h' B P C := by
    intro h' k
    refine ⟨Fr_W k w0, SWL_fr k L0, ?_, GQ_fr k (fun x hx => ?_) (fun x hx => ?_) G, by rw [Fr_R k]; exact hR, RU_fr k (by simp; omega) (by simp; omega) (by simp; omega) (by simp; omega) R⟩
    · unfold AMS
      rw [k.2.1 56 (by simp; omega), k.2.1 57 (by simp; omega)]
      exact A
    · have t1 := (isG_D hg dc).1 x hx
      have t2 := (isG_D hg dd).1 x hx
      have t3 : x ≤ 25 := by
        have : ∀ y ∈ gS g, y ≤ 25 := by rcases hg with rfl | rfl <;> decide
        exact this x hx
      simp [t1, t2]; omega
    · have t1 := (isG_D hg da).2 x hx
      have t2 := (isG_D hg db).2 x hx
      simp [t1, t2]
  have loop2 : ∀ k, k ≤ max m l → m ≤ k → ∀ h', Fr [55, c, d] [a, b] h h' → kI h' 55 8 = nI (max t l) → kI h' 55 9 = nI k → SWT h' a b c B (max t l) → SWH h' d B P C k → kRun r mX6_reach 35 [some (.ref 55), some (.int (nI l)), some (.int (nI (k + 1)))] [] h' Q := by
    refine up_ind ?_ (fun k hk ih => ?_)
    · intro _ h' f k8 k9 T' S'
      refine eX6_reach_35 ?_
      simp only [ks_nop, ks_aload_0, ks_iload_1, ks_iload_2, ks_istore_2, ks_iconst, ks_iinc, ks_iadd, ks_icmp_gt, ks_goto, ks_get0, ks_get3, ks_get1, ks_get2, ks_put0, ks_put1, ks_put2, ks_put3, ks_inv0, ks_inv1, ks_inv2, ks_inv4, ks_inv3, ks_inv5, ks_inv6, ks_inv7, ks_inv8, ks_vret, kldi_0, kldl_0, klda_0, kldz_0, kst1_0, kst2_0, kldi_1, kldl_1, klda_1, kldz_1, kst1_1n, kst2_1n, kst1_1i, kst2_1i, kst1_1r, kst2_1r, kst1_1z, kst2_1z, kst1_1l, kst2_1l, kldi_2, kldl_2, klda_2, kldz_2, kst1_2n, kst2_2n, kst1_2i, kst2_2i, kst1_2r, kst2_2r, kst1_2z, kst2_2z, kst1_2l, kst2_2l, kpr_r, kcat_n, kcat_i, kcat_r, kcat_z, kcat_l, kargs_0, kargs_s, kret_v, kret_n, kret_x, jX6_reach_0, bX6_reach_0, jX6_reach_7, bX6_reach_7, jX6_reach_28, bX6_reach_28, jX6_reach_35, bX6_reach_35, jX6_reach_56, bX6_reach_56, Nat.reduceAdd, Nat.reduceLeDiff, Nat.reduceEqDiff, Nat.reduceSub, Nat.zero_le, Nat.add_left_cancel_iff, true_and, and_true, if_true, if_false, reduceIte, ne_eq, not_false_eq_true, Nat.add_eq_left, Nat.left_eq_add, kI_sI, kL_sI, kR_sI, kK_sI, kI_sL, kL_sL, kR_sL, kK_sL, kI_sIA, kL_sIA, kR_sIA, kK_sIA, kI_sLA, kL_sLA, kR_sLA, kK_sLA]
      try simp (disch := omega) only [a_0, a_1, a_L0, a_L1, a_lt, a_le, a_eq, a_sub, a_addn, nI_add, pk_mul, a_in, nI_clamp, a_eqn, a_eqn', a_eqn2, a_n12, eq_self, a_ltn, a_ltn', a_len, a_len', a_shl1, z_shr, fa_and, fa_or, a_tb, a_tb0, a_b0, a_b1, a_bi, a_lc0, a_lcle, a_lcge, a_lclt, a_lcgt, upd_at, upd_ne, updL_at, updL_ne, Nat.reduceAdd, Nat.reduceSub, Nat.reduceMul, Nat.reduceLT, Nat.reduceLeDiff, Nat.reduceEqDiff, true_and, and_true, if_true, if_false, reduceIte, ne_eq, not_false_eq_true, not_true_eq_false, true_implies, false_implies, Nat.not_lt, Nat.not_le, Nat.le_refl, Nat.add_sub_cancel, Nat.lt_irrefl, Nat.not_lt_zero, Nat.zero_le, Nat.testBit_shiftRight, Nat.add_zero, reduceCtorEq, true_or, or_true, or_false, false_or, Bool.true_eq_false, Bool.false_eq_true, Bool.not_eq_false, Bool.not_eq_true, Decidable.not_not]
      repeat (first | refine ⟨fun _ => ?_, fun c => absurd c (by omega)⟩ | refine ⟨fun c => absurd c (by omega), fun _ => ?_⟩)
      exact H h' f k8 k9 T' S'
    · intro hmk h' f k8 k9 T' S'
      obtain ⟨w, L', A', G', hR', R'⟩ := st h' f
      refine eX6_reach_35 ?_
      simp only [ks_nop, ks_aload_0, ks_iload_1, ks_iload_2, ks_istore_2, ks_iconst, ks_iinc, ks_iadd, ks_icmp_gt, ks_goto, ks_get0, ks_get3, ks_get1, ks_get2, ks_put0, ks_put1, ks_put2, ks_put3, ks_inv0, ks_inv1, ks_inv2, ks_inv4, ks_inv3, ks_inv5, ks_inv6, ks_inv7, ks_inv8, ks_vret, kldi_0, kldl_0, klda_0, kldz_0, kst1_0, kst2_0, kldi_1, kldl_1, klda_1, kldz_1, kst1_1n, kst2_1n, kst1_1i, kst2_1i, kst1_1r, kst2_1r, kst1_1z, kst2_1z, kst1_1l, kst2_1l, kldi_2, kldl_2, klda_2, kldz_2, kst1_2n, kst2_2n, kst1_2i, kst2_2i, kst1_2r, kst2_2r, kst1_2z, kst2_2z, kst1_2l, kst2_2l, kpr_r, kcat_n, kcat_i, kcat_r, kcat_z, kcat_l, kargs_0, kargs_s, kret_v, kret_n, kret_x, jX6_reach_0, bX6_reach_0, jX6_reach_7, bX6_reach_7, jX6_reach_28, bX6_reach_28, jX6_reach_35, bX6_reach_35, jX6_reach_56, bX6_reach_56, Nat.reduceAdd, Nat.reduceLeDiff, Nat.reduceEqDiff, Nat.reduceSub, Nat.zero_le, Nat.add_left_cancel_iff, true_and, and_true, if_true, if_false, reduceIte, ne_eq, not_false_eq_true, Nat.add_eq_left, Nat.left_eq_add, kI_sI, kL_sI, kR_sI, kK_sI, kI_sL, kL_sL, kR_sL, kK_sL, kI_sIA, kL_sIA, kR_sIA, kK_sIA, kI_sLA, kL_sLA, kR_sLA, kK_sLA, wK_55 w, wR_55_0 w, wR_55_2 w, wR_55_3 w, wK_56 w, wK_57 w, r2]
      try simp (disch := omega) only [a_0, a_1, a_L0, a_L1, a_lt, a_le, a_eq, a_sub, a_addn, nI_add, pk_mul, a_in, nI_clamp, a_eqn, a_eqn', a_eqn2, a_n12, eq_self, a_ltn, a_ltn', a_len, a_len', a_shl1, z_shr, fa_and, fa_or, a_tb, a_tb0, a_b0, a_b1, a_bi, a_lc0, a_lcle, a_lcge, a_lclt, a_lcgt, upd_at, upd_ne, updL_at, updL_ne, Nat.reduceAdd, Nat.reduceSub, Nat.reduceMul, Nat.reduceLT, Nat.reduceLeDiff, Nat.reduceEqDiff, true_and, and_true, if_true, if_false, reduceIte, ne_eq, not_false_eq_true, not_true_eq_false, true_implies, false_implies, Nat.not_lt, Nat.not_le, Nat.le_refl, Nat.add_sub_cancel, Nat.lt_irrefl, Nat.not_lt_zero, Nat.zero_le, Nat.testBit_shiftRight, Nat.add_zero, reduceCtorEq, true_or, or_true, or_false, false_or, Bool.true_eq_false, Bool.false_eq_true, Bool.not_eq_false, Bool.not_eq_true, Decidable.not_not, wK_55 w, wR_55_0 w, wR_55_2 w, wR_55_3 w, wK_56 w, wK_57 w, r2]
      repeat (first | refine ⟨fun _ => ?_, fun c => absurd c (by omega)⟩ | refine ⟨fun c => absurd c (by omega), fun _ => ?_⟩)
      refine c_haveAll (l := k + 1) (by omega) w hg G' hR' A' L' hN hN2 hC R' (by omega) (by omega) (by rw [Nat.add_sub_cancel]; exact S') (fun h2 f2 S2 => ?_)
      have w2 := Fr_W f2 w
      simp only [ks_nop, ks_aload_0, ks_iload_1, ks_iload_2, ks_istore_2, ks_iconst, ks_iinc, ks_iadd, ks_icmp_gt, ks_goto, ks_get0, ks_get3, ks_get1, ks_get2, ks_put0, ks_put1, ks_put2, ks_put3, ks_inv0, ks_inv1, ks_inv2, ks_inv4, ks_inv3, ks_inv5, ks_inv6, ks_inv7, ks_inv8, ks_vret, kldi_0, kldl_0, klda_0, kldz_0, kst1_0, kst2_0, kldi_1, kldl_1, klda_1, kldz_1, kst1_1n, kst2_1n, kst1_1i, kst2_1i, kst1_1r, kst2_1r, kst1_1z, kst2_1z, kst1_1l, kst2_1l, kldi_2, kldl_2, klda_2, kldz_2, kst1_2n, kst2_2n, kst1_2i, kst2_2i, kst1_2r, kst2_2r, kst1_2z, kst2_2z, kst1_2l, kst2_2l, kpr_r, kcat_n, kcat_i, kcat_r, kcat_z, kcat_l, kargs_0, kargs_s, kret_v, kret_n, kret_x, jX6_reach_0, bX6_reach_0, jX6_reach_7, bX6_reach_7, jX6_reach_28, bX6_reach_28, jX6_reach_35, bX6_reach_35, jX6_reach_56, bX6_reach_56, Nat.reduceAdd, Nat.reduceLeDiff, Nat.reduceEqDiff, Nat.reduceSub, Nat.zero_le, Nat.add_left_cancel_iff, true_and, and_true, if_true, if_false, reduceIte, ne_eq, not_false_eq_true, Nat.add_eq_left, Nat.left_eq_add, kI_sI, kL_sI, kR_sI, kK_sI, kI_sL, kL_sL, kR_sL, kK_sL, kI_sIA, kL_sIA, kR_sIA, kK_sIA, kI_sLA, kL_sLA, kR_sLA, kK_sLA, wK_55 w2]
      try simp (disch := omega) only [a_0, a_1, a_L0, a_L1, a_lt, a_le, a_eq, a_sub, a_addn, nI_add, pk_mul, a_in, nI_clamp, a_eqn, a_eqn', a_eqn2, a_n12, eq_self, a_ltn, a_ltn', a_len, a_len', a_shl1, z_shr, fa_and, fa_or, a_tb, a_tb0, a_b0, a_b1, a_bi, a_lc0, a_lcle, a_lcge, a_lclt, a_lcgt, upd_at, upd_ne, updL_at, updL_ne, Nat.reduceAdd, Nat.reduceSub, Nat.reduceMul, Nat.reduceLT, Nat.reduceLeDiff, Nat.reduceEqDiff, true_and, and_true, if_true, if_false, reduceIte, ne_eq, not_false_eq_true, not_true_eq_false, true_implies, false_implies, Nat.not_lt, Nat.not_le, Nat.le_refl, Nat.add_sub_cancel, Nat.lt_irrefl, Nat.not_lt_zero, Nat.zero_le, Nat.testBit_shiftRight, Nat.add_zero, reduceCtorEq, true_or, or_true, or_false, false_or, Bool.true_eq_false, Bool.false_eq_true, Bool.not_eq_false, Bool.not_eq_true, Decidable.not_not, wK_55 w2]
      repeat (first | refine ⟨fun _ => ?_, fun c => absurd c (by omega)⟩ | refine ⟨fun c => absurd c (by omega), fun _ => ?_⟩)
      have f3 : Fr [55, c, d] [a, b] h (sI h2 55 9 (nI (k + 1))) := Fr_sI (Fr_tr f f2 (by simp) (by simp)) (by simp)
      refine ih (by omega) (sI h2 55 9 (nI (k + 1))) f3 ?_ ?_ ?_ ?_
      · rw [kI_sI, if_pos rfl, upd_ne _ _ (by omega), f2.2.1 55 (by simp; omega)]; exact k8
      · rw [kI_sI, if_pos rfl, upd_at]
      · have e1 : kL (sI h2 55 9 (nI (k + 1))) a = kL h' a := by rw [kL_sI, f2.2.2 a (by simp)]
        have e2 : kL (sI h2 55 9 (nI (k + 1))) b = kL h' b := by rw [kL_sI, f2.2.2 b (by simp)]
        have e3 : kI (sI h2 55 9 (nI (k + 1))) c = kI h' c := by rw [kI_sI, if_neg (by omega), f2.2.1 c (by simp; exact ncd)]
        exact SWT_keep (fun p _ => by rw [e1, e2, e3]; exact ⟨rfl, rfl, rfl⟩) T'
      · exact SWH_keep (fun p _ => by rw [kI_sI, if_neg (by omega)]) S2
  have loop1 : ∀ k, k ≤ max t l → t ≤ k → ∀ h', Fr [55, c, d] [a, b] h h' → kI h' 55 8 = nI k → kI h' 55 9 = nI m → SWT h' a b c B k → SWH h' d B P C m → kRun r mX6_reach 7 [some (.ref 55), some (.int (nI l)), some (.int (nI (k + 1)))] [] h' Q := by
    refine up_ind ?_ (fun k hk ih => ?_)
    · intro _ h' f k8 k9 T' S'
      obtain ⟨w, L', A', G', hR', R'⟩ := st h' f
      refine eX6_reach_7 ?_
      simp only [ks_nop, ks_aload_0, ks_iload_1, ks_iload_2, ks_istore_2, ks_iconst, ks_iinc, ks_iadd, ks_icmp_gt, ks_goto, ks_get0, ks_get3, ks_get1, ks_get2, ks_put0, ks_put1, ks_put2, ks_put3, ks_inv0, ks_inv1, ks_inv2, ks_inv4, ks_inv3, ks_inv5, ks_inv6, ks_inv7, ks_inv8, ks_vret, kldi_0, kldl_0, klda_0, kldz_0, kst1_0, kst2_0, kldi_1, kldl_1, klda_1, kldz_1, kst1_1n, kst2_1n, kst1_1i, kst2_1i, kst1_1r, kst2_1r, kst1_1z, kst2_1z, kst1_1l, kst2_1l, kldi_2, kldl_2, klda_2, kldz_2, kst1_2n, kst2_2n, kst1_2i, kst2_2i, kst1_2r, kst2_2r, kst1_2z, kst2_2z, kst1_2l, kst2_2l, kpr_r, kcat_n, kcat_i, kcat_r, kcat_z, kcat_l, kargs_0, kargs_s, kret_v, kret_n, kret_x, jX6_reach_0, bX6_reach_0, jX6_reach_7, bX6_reach_7, jX6_reach_28, bX6_reach_28, jX6_reach_35, bX6_reach_35, jX6_reach_56, bX6_reach_56, Nat.reduceAdd, Nat.reduceLeDiff, Nat.reduceEqDiff, Nat.reduceSub, Nat.zero_le, Nat.add_left_cancel_iff, true_and, and_true, if_true, if_false, reduceIte, ne_eq, not_false_eq_true, Nat.add_eq_left, Nat.left_eq_add, kI_sI, kL_sI, kR_sI, kK_sI, kI_sL, kL_sL, kR_sL, kK_sL, kI_sIA, kL_sIA, kR_sIA, kK_sIA, kI_sLA, kL_sLA, kR_sLA, kK_sLA, wK_55 w, wR_55_0 w, wR_55_2 w, wR_55_3 w, wK_56 w, wK_57 w, k9]
      try simp (disch := omega) only [a_0, a_1, a_L0, a_L1, a_lt, a_le, a_eq, a_sub, a_addn, nI_add, pk_mul, a_in, nI_clamp, a_eqn, a_eqn', a_eqn2, a_n12, eq_self, a_ltn, a_ltn', a_len, a_len', a_shl1, z_shr, fa_and, fa_or, a_tb, a_tb0, a_b0, a_b1, a_bi, a_lc0, a_lcle, a_lcge, a_lclt, a_lcgt, upd_at, upd_ne, updL_at, updL_ne, Nat.reduceAdd, Nat.reduceSub, Nat.reduceMul, Nat.reduceLT, Nat.reduceLeDiff, Nat.reduceEqDiff, true_and, and_true, if_true, if_false, reduceIte, ne_eq, not_false_eq_true, not_true_eq_false, true_implies, false_implies, Nat.not_lt, Nat.not_le, Nat.le_refl, Nat.add_sub_cancel, Nat.lt_irrefl, Nat.not_lt_zero, Nat.zero_le, Nat.testBit_shiftRight, Nat.add_zero, reduceCtorEq, true_or, or_true, or_false, false_or, Bool.true_eq_false, Bool.false_eq_true, Bool.not_eq_false, Bool.not_eq_true, Decidable.not_not, wK_55 w, wR_55_0 w, wR_55_2 w, wR_55_3 w, wK_56 w, wK_57 w, k9]
      repeat (first | refine ⟨fun _ => ?_, fun c => absurd c (by omega)⟩ | refine ⟨fun c => absurd c (by omega), fun _ => ?_⟩)
      exact loop2 m (by omega) (by omega) h' f k8 k9 T' S'
    · intro htk h' f k8 k9 T' S'
      obtain ⟨w, L', A', G', hR', R'⟩ := st h' f
      refine eX6_reach_7 ?_
      simp only [ks_nop, ks_aload_0, ks_iload_1, ks_iload_2, ks_istore_2, ks_iconst, ks_iinc, ks_iadd, ks_icmp_gt, ks_goto, ks_get0, ks_get3, ks_get1, ks_get2, ks_put0, ks_put1, ks_put2, ks_put3, ks_inv0, ks_inv1, ks_inv2, ks_inv4, ks_inv3, ks_inv5, ks_inv6, ks_inv7, ks_inv8, ks_vret, kldi_0, kldl_0, klda_0, kldz_0, kst1_0, kst2_0, kldi_1, kldl_1, klda_1, kldz_1, kst1_1n, kst2_1n, kst1_1i, kst2_1i, kst1_1r, kst2_1r, kst1_1z, kst2_1z, kst1_1l, kst2_1l, kldi_2, kldl_2, klda_2, kldz_2, kst1_2n, kst2_2n, kst1_2i, kst2_2i, kst1_2r, kst2_2r, kst1_2z, kst2_2z, kst1_2l, kst2_2l, kpr_r, kcat_n, kcat_i, kcat_r, kcat_z, kcat_l, kargs_0, kargs_s, kret_v, kret_n, kret_x, jX6_reach_0, bX6_reach_0, jX6_reach_7, bX6_reach_7, jX6_reach_28, bX6_reach_28, jX6_reach_35, bX6_reach_35, jX6_reach_56, bX6_reach_56, Nat.reduceAdd, Nat.reduceLeDiff, Nat.reduceEqDiff, Nat.reduceSub, Nat.zero_le, Nat.add_left_cancel_iff, true_and, and_true, if_true, if_false, reduceIte, ne_eq, not_false_eq_true, Nat.add_eq_left, Nat.left_eq_add, kI_sI, kL_sI, kR_sI, kK_sI, kI_sL, kL_sL, kR_sL, kK_sL, kI_sIA, kL_sIA, kR_sIA, kK_sIA, kI_sLA, kL_sLA, kR_sLA, kK_sLA, wK_55 w, wR_55_0 w, wR_55_2 w, wR_55_3 w, wK_56 w, wK_57 w, r2]
      try simp (disch := omega) only [a_0, a_1, a_L0, a_L1, a_lt, a_le, a_eq, a_sub, a_addn, nI_add, pk_mul, a_in, nI_clamp, a_eqn, a_eqn', a_eqn2, a_n12, eq_self, a_ltn, a_ltn', a_len, a_len', a_shl1, z_shr, fa_and, fa_or, a_tb, a_tb0, a_b0, a_b1, a_bi, a_lc0, a_lcle, a_lcge, a_lclt, a_lcgt, upd_at, upd_ne, updL_at, updL_ne, Nat.reduceAdd, Nat.reduceSub, Nat.reduceMul, Nat.reduceLT, Nat.reduceLeDiff, Nat.reduceEqDiff, true_and, and_true, if_true, if_false, reduceIte, ne_eq, not_false_eq_true, not_true_eq_false, true_implies, false_implies, Nat.not_lt, Nat.not_le, Nat.le_refl, Nat.add_sub_cancel, Nat.lt_irrefl, Nat.not_lt_zero, Nat.zero_le, Nat.testBit_shiftRight, Nat.add_zero, reduceCtorEq, true_or, or_true, or_false, false_or, Bool.true_eq_false, Bool.false_eq_true, Bool.not_eq_false, Bool.not_eq_true, Decidable.not_not, wK_55 w, wR_55_0 w, wR_55_2 w, wR_55_3 w, wK_56 w, wK_57 w, r2]
      repeat (first | refine ⟨fun _ => ?_, fun c => absurd c (by omega)⟩ | refine ⟨fun c => absurd c (by omega), fun _ => ?_⟩)
      refine c_tellAll (l := k + 1) (by omega) w hg G' hR' A' L' hN hN2 (by omega) (by omega) (by rw [Nat.add_sub_cancel]; exact T') (fun h2 f2 T2 => ?_)
      have w2 := Fr_W f2 w
      simp only [ks_nop, ks_aload_0, ks_iload_1, ks_iload_2, ks_istore_2, ks_iconst, ks_iinc, ks_iadd, ks_icmp_gt, ks_goto, ks_get0, ks_get3, ks_get1, ks_get2, ks_put0, ks_put1, ks_put2, ks_put3, ks_inv0, ks_inv1, ks_inv2, ks_inv4, ks_inv3, ks_inv5, ks_inv6, ks_inv7, ks_inv8, ks_vret, kldi_0, kldl_0, klda_0, kldz_0, kst1_0, kst2_0, kldi_1, kldl_1, klda_1, kldz_1, kst1_1n, kst2_1n, kst1_1i, kst2_1i, kst1_1r, kst2_1r, kst1_1z, kst2_1z, kst1_1l, kst2_1l, kldi_2, kldl_2, klda_2, kldz_2, kst1_2n, kst2_2n, kst1_2i, kst2_2i, kst1_2r, kst2_2r, kst1_2z, kst2_2z, kst1_2l, kst2_2l, kpr_r, kcat_n, kcat_i, kcat_r, kcat_z, kcat_l, kargs_0, kargs_s, kret_v, kret_n, kret_x, jX6_reach_0, bX6_reach_0, jX6_reach_7, bX6_reach_7, jX6_reach_28, bX6_reach_28, jX6_reach_35, bX6_reach_35, jX6_reach_56, bX6_reach_56, Nat.reduceAdd, Nat.reduceLeDiff, Nat.reduceEqDiff, Nat.reduceSub, Nat.zero_le, Nat.add_left_cancel_iff, true_and, and_true, if_true, if_false, reduceIte, ne_eq, not_false_eq_true, Nat.add_eq_left, Nat.left_eq_add, kI_sI, kL_sI, kR_sI, kK_sI, kI_sL, kL_sL, kR_sL, kK_sL, kI_sIA, kL_sIA, kR_sIA, kK_sIA, kI_sLA, kL_sLA, kR_sLA, kK_sLA, wK_55 w2]
      try simp (disch := omega) only [a_0, a_1, a_L0, a_L1, a_lt, a_le, a_eq, a_sub, a_addn, nI_add, pk_mul, a_in, nI_clamp, a_eqn, a_eqn', a_eqn2, a_n12, eq_self, a_ltn, a_ltn', a_len, a_len', a_shl1, z_shr, fa_and, fa_or, a_tb, a_tb0, a_b0, a_b1, a_bi, a_lc0, a_lcle, a_lcge, a_lclt, a_lcgt, upd_at, upd_ne, updL_at, updL_ne, Nat.reduceAdd, Nat.reduceSub, Nat.reduceMul, Nat.reduceLT, Nat.reduceLeDiff, Nat.reduceEqDiff, true_and, and_true, if_true, if_false, reduceIte, ne_eq, not_false_eq_true, not_true_eq_false, true_implies, false_implies, Nat.not_lt, Nat.not_le, Nat.le_refl, Nat.add_sub_cancel, Nat.lt_irrefl, Nat.not_lt_zero, Nat.zero_le, Nat.testBit_shiftRight, Nat.add_zero, reduceCtorEq, true_or, or_true, or_false, false_or, Bool.true_eq_false, Bool.false_eq_true, Bool.not_eq_false, Bool.not_eq_true, Decidable.not_not, wK_55 w2]
      repeat (first | refine ⟨fun _ => ?_, fun c => absurd c (by omega)⟩ | refine ⟨fun c => absurd c (by omega), fun _ => ?_⟩)
      have f3 : Fr [55, c, d] [a, b] h (sI h2 55 8 (nI (k + 1))) := Fr_sI (Fr_tr f f2 (by simp) (by simp)) (by simp)
      refine ih (by omega) (sI h2 55 8 (nI (k + 1))) f3 ?_ ?_ ?_ ?_
      · rw [kI_sI, if_pos rfl, upd_at]
      · rw [kI_sI, if_pos rfl, upd_ne _ _ (by omega), f2.2.1 55 (by simp; omega)]; exact k9
      · exact SWT_keep (fun p _ => by rw [kL_sI, kI_sI, if_neg (by omega)]; exact ⟨rfl, rfl, rfl⟩) T2
      · exact SWH_keep (fun p _ => by rw [kI_sI, if_neg (by omega), f2.2.1 d (by simp; exact Ne.symm ncd)]) S'
  refine sX6_reach _ _ ?_
  refine eX6_reach_0 ?_
  simp only [ks_nop, ks_aload_0, ks_iload_1, ks_iload_2, ks_istore_2, ks_iconst, ks_iinc, ks_iadd, ks_icmp_gt, ks_goto, ks_get0, ks_get3, ks_get1, ks_get2, ks_put0, ks_put1, ks_put2, ks_put3, ks_inv0, ks_inv1, ks_inv2, ks_inv4, ks_inv3, ks_inv5, ks_inv6, ks_inv7, ks_inv8, ks_vret, kldi_0, kldl_0, klda_0, kldz_0, kst1_0, kst2_0, kldi_1, kldl_1, klda_1, kldz_1, kst1_1n, kst2_1n, kst1_1i, kst2_1i, kst1_1r, kst2_1r, kst1_1z, kst2_1z, kst1_1l, kst2_1l, kldi_2, kldl_2, klda_2, kldz_2, kst1_2n, kst2_2n, kst1_2i, kst2_2i, kst1_2r, kst2_2r, kst1_2z, kst2_2z, kst1_2l, kst2_2l, kpr_r, kcat_n, kcat_i, kcat_r, kcat_z, kcat_l, kargs_0, kargs_s, kret_v, kret_n, kret_x, jX6_reach_0, bX6_reach_0, jX6_reach_7, bX6_reach_7, jX6_reach_28, bX6_reach_28, jX6_reach_35, bX6_reach_35, jX6_reach_56, bX6_reach_56, Nat.reduceAdd, Nat.reduceLeDiff, Nat.reduceEqDiff, Nat.reduceSub, Nat.zero_le, Nat.add_left_cancel_iff, true_and, and_true, if_true, if_false, reduceIte, ne_eq, not_false_eq_true, Nat.add_eq_left, Nat.left_eq_add, kI_sI, kL_sI, kR_sI, kK_sI, kI_sL, kL_sL, kR_sL, kK_sL, kI_sIA, kL_sIA, kR_sIA, kK_sIA, kI_sLA, kL_sLA, kR_sLA, kK_sLA, wK_55 w, wR_55_0 w, wR_55_2 w, wR_55_3 w, wK_56 w, wK_57 w, ht]
  try simp (disch := omega) only [a_0, a_1, a_L0, a_L1, a_lt, a_le, a_eq, a_sub, a_addn, nI_add, pk_mul, a_in, nI_clamp, a_eqn, a_eqn', a_eqn2, a_n12, eq_self, a_ltn, a_ltn', a_len, a_len', a_shl1, z_shr, fa_and, fa_or, a_tb, a_tb0, a_b0, a_b1, a_bi, a_lc0, a_lcle, a_lcge, a_lclt, a_lcgt, upd_at, upd_ne, updL_at, updL_ne, Nat.reduceAdd, Nat.reduceSub, Nat.reduceMul, Nat.reduceLT, Nat.reduceLeDiff, Nat.reduceEqDiff, true_and, and_true, if_true, if_false, reduceIte, ne_eq, not_false_eq_true, not_true_eq_false, true_implies, false_implies, Nat.not_lt, Nat.not_le, Nat.le_refl, Nat.add_sub_cancel, Nat.lt_irrefl, Nat.not_lt_zero, Nat.zero_le, Nat.testBit_shiftRight, Nat.add_zero, reduceCtorEq, true_or, or_true, or_false, false_or, Bool.true_eq_false, Bool.false_eq_true, Bool.not_eq_false, Bool.not_eq_true, Decidable.not_not]
  exact loop1 t (by omega) (by omega) h (Fr_rf _ _ _) ht hm T S
theorem i64_4 : ∀ s, s < 4 → (nI s).toInt64 = lN s := by decide
theorem or_sign {l k s t : Nat} (hk : k < l) (hs : s < 4) (ht : t < 2 ^ (2 * k)) : (2 ^ (2 * l) + t) ||| (s * 2 ^ (2 * k)) = 2 ^ (2 * l) + (s * 2 ^ (2 * k) + t) := by
  have e1 := n_or_add (a := s) ht
  have p1 : 2 ^ (2 * k) * 4 ≤ 2 ^ (2 * l) := by
    have : 2 ^ (2 * k + 2) ≤ 2 ^ (2 * l) := Nat.pow_le_pow_right (by omega) (by omega)
    rw [Nat.pow_add] at this
    omega
  have m3 : s * 2 ^ (2 * k) ≤ 3 * 2 ^ (2 * k) := Nat.mul_le_mul_right _ (by omega)
  have e2 := n_or_add (a := 1) (k := 2 * l) (b := t) (by omega)
  have e3 := n_or_add (a := 1) (k := 2 * l) (b := s * 2 ^ (2 * k) + t) (by omega)
  rw [Nat.one_mul] at e2 e3
  rw [← e2, ← e3, Nat.or_assoc, Nat.or_comm t, e1]
theorem c_Srow {l v : Nat} (hr : 2 ≤ r) (w : kW h) (hg : isG g) (G : GQ h g B nn) (hR : kR h 55 1 = g) (hp : 0 < (sgl B).length) (hl : l ≤ 20) (hv : v < 2 ^ 31) (H : Q (.inl (some (.long (lN (cd (wN (sgl B) l v)))))) h) : kCalls r yX6_row [.ref 55, .int (nI l), .int (nI v)] h Q := by
  have s4 := sgl_len B
  have g0 : ¬ g = 0 := by rcases hg with rfl | rfl <;> omega
  have wl := wN_len (sgl B) l v
  have wo := wN_ok (sl := sgl B) (fun s hs => sgl_lt hs) hp l v
  refine sX6_row _ _ _ ?_
  refine eX6_row_0 ?_
  simp only [ks_nop, ks_aload_0, ks_iload_1, ks_iload_2, ks_iload_3, ks_iload, ks_lload, ks_istore_3, ks_istore, ks_lstore, ks_iconst, ks_lconst, ks_iinc, ks_imul, ks_idiv, ks_irem, ks_lor, ks_lshl, ks_i2l, ks_icmp_ge, ks_if_le, ks_goto, ks_get0, ks_get3, ks_get1, ks_get2, ks_inv0, ks_inv1, ks_inv2, ks_inv4, ks_inv3, ks_inv5, ks_inv6, ks_inv7, ks_inv8, ks_lret, kldi_0, kldl_0, klda_0, kldz_0, kst1_0, kst2_0, kldi_1, kldl_1, klda_1, kldz_1, kst1_1n, kst2_1n, kst1_1i, kst2_1i, kst1_1r, kst2_1r, kst1_1z, kst2_1z, kst1_1l, kst2_1l, kldi_2, kldl_2, klda_2, kldz_2, kst1_2n, kst2_2n, kst1_2i, kst2_2i, kst1_2r, kst2_2r, kst1_2z, kst2_2z, kst1_2l, kst2_2l, kldi_3, kldl_3, klda_3, kldz_3, kst1_3n, kst2_3n, kst1_3i, kst2_3i, kst1_3r, kst2_3r, kst1_3z, kst2_3z, kst1_3l, kst2_3l, kldi_4, kldl_4, klda_4, kldz_4, kst1_4n, kst2_4n, kst1_4i, kst2_4i, kst1_4r, kst2_4r, kst1_4z, kst2_4z, kst1_4l, kst2_4l, kldi_5, kldl_5, klda_5, kldz_5, kst1_5n, kst2_5n, kst1_5i, kst2_5i, kst1_5r, kst2_5r, kst1_5z, kst2_5z, kst1_5l, kst2_5l, kldi_6, kldl_6, klda_6, kldz_6, kst1_6n, kst2_6n, kst1_6i, kst2_6i, kst1_6r, kst2_6r, kst1_6z, kst2_6z, kst1_6l, kst2_6l, kldi_7, kldl_7, klda_7, kldz_7, kst1_7n, kst2_7n, kst1_7i, kst2_7i, kst1_7r, kst2_7r, kst1_7z, kst2_7z, kst1_7l, kst2_7l, kpr_r, kcat_n, kcat_i, kcat_r, kcat_z, kcat_l, kargs_0, kargs_s, kret_v, kret_n, kret_x, zl_2, jX6_row_0, bX6_row_0, jX6_row_21, bX6_row_21, jX6_row_65, bX6_row_65, Nat.reduceAdd, Nat.reduceLeDiff, Nat.reduceEqDiff, Nat.reduceSub, Nat.zero_le, Nat.add_left_cancel_iff, true_and, and_true, if_true, if_false, reduceIte, ne_eq, not_false_eq_true, Nat.add_eq_left, Nat.left_eq_add, kI_sI, kL_sI, kR_sI, kK_sI, kI_sL, kL_sL, kR_sL, kK_sL, kI_sIA, kL_sIA, kR_sIA, kK_sIA, kI_sLA, kL_sLA, kR_sLA, kK_sLA, wK_55 w, wR_55_0 w, wR_55_2 w, wR_55_3 w, wK_56 w, wK_57 w, hR, g0, gK w hg, hr]
  refine c_signCount w hg G ?_
  simp only [ks_nop, ks_aload_0, ks_iload_1, ks_iload_2, ks_iload_3, ks_iload, ks_lload, ks_istore_3, ks_istore, ks_lstore, ks_iconst, ks_lconst, ks_iinc, ks_imul, ks_idiv, ks_irem, ks_lor, ks_lshl, ks_i2l, ks_icmp_ge, ks_if_le, ks_goto, ks_get0, ks_get3, ks_get1, ks_get2, ks_inv0, ks_inv1, ks_inv2, ks_inv4, ks_inv3, ks_inv5, ks_inv6, ks_inv7, ks_inv8, ks_lret, kldi_0, kldl_0, klda_0, kldz_0, kst1_0, kst2_0, kldi_1, kldl_1, klda_1, kldz_1, kst1_1n, kst2_1n, kst1_1i, kst2_1i, kst1_1r, kst2_1r, kst1_1z, kst2_1z, kst1_1l, kst2_1l, kldi_2, kldl_2, klda_2, kldz_2, kst1_2n, kst2_2n, kst1_2i, kst2_2i, kst1_2r, kst2_2r, kst1_2z, kst2_2z, kst1_2l, kst2_2l, kldi_3, kldl_3, klda_3, kldz_3, kst1_3n, kst2_3n, kst1_3i, kst2_3i, kst1_3r, kst2_3r, kst1_3z, kst2_3z, kst1_3l, kst2_3l, kldi_4, kldl_4, klda_4, kldz_4, kst1_4n, kst2_4n, kst1_4i, kst2_4i, kst1_4r, kst2_4r, kst1_4z, kst2_4z, kst1_4l, kst2_4l, kldi_5, kldl_5, klda_5, kldz_5, kst1_5n, kst2_5n, kst1_5i, kst2_5i, kst1_5r, kst2_5r, kst1_5z, kst2_5z, kst1_5l, kst2_5l, kldi_6, kldl_6, klda_6, kldz_6, kst1_6n, kst2_6n, kst1_6i, kst2_6i, kst1_6r, kst2_6r, kst1_6z, kst2_6z, kst1_6l, kst2_6l, kldi_7, kldl_7, klda_7, kldz_7, kst1_7n, kst2_7n, kst1_7i, kst2_7i, kst1_7r, kst2_7r, kst1_7z, kst2_7z, kst1_7l, kst2_7l, kpr_r, kcat_n, kcat_i, kcat_r, kcat_z, kcat_l, kargs_0, kargs_s, kret_v, kret_n, kret_x, zl_2, jX6_row_0, bX6_row_0, jX6_row_21, bX6_row_21, jX6_row_65, bX6_row_65, Nat.reduceAdd, Nat.reduceLeDiff, Nat.reduceEqDiff, Nat.reduceSub, Nat.zero_le, Nat.add_left_cancel_iff, true_and, and_true, if_true, if_false, reduceIte, ne_eq, not_false_eq_true, Nat.add_eq_left, Nat.left_eq_add, kI_sI, kL_sI, kR_sI, kK_sI, kI_sL, kL_sL, kR_sL, kK_sL, kI_sIA, kL_sIA, kR_sIA, kK_sIA, kI_sLA, kL_sLA, kR_sLA, kK_sLA]
  try simp (disch := omega) only [a_0, a_1, a_L0, a_L1, a_lt, a_le, a_eq, a_sub, a_addn, nI_add, pk_mul, a_in, nI_clamp, a_eqn, a_eqn', a_eqn2, a_n12, eq_self, a_ltn, a_ltn', a_len, a_len', a_shl1, z_shr, fa_and, fa_or, a_tb, a_tb0, a_b0, a_b1, a_bi, a_lc0, a_lcle, a_lcge, a_lclt, a_lcgt, upd_at, upd_ne, updL_at, updL_ne, Nat.reduceAdd, Nat.reduceSub, Nat.reduceMul, Nat.reduceLT, Nat.reduceLeDiff, Nat.reduceEqDiff, true_and, and_true, if_true, if_false, reduceIte, ne_eq, not_false_eq_true, not_true_eq_false, true_implies, false_implies, Nat.not_lt, Nat.not_le, Nat.le_refl, Nat.add_sub_cancel, Nat.lt_irrefl, Nat.not_lt_zero, Nat.zero_le, Nat.testBit_shiftRight, Nat.add_zero, reduceCtorEq, true_or, or_true, or_false, false_or, Bool.true_eq_false, Bool.false_eq_true, Bool.not_eq_false, Bool.not_eq_true, Decidable.not_not]
  repeat (first | refine ⟨fun _ => ?_, fun c => absurd c (by omega)⟩ | refine ⟨fun c => absurd c (by omega), fun _ => ?_⟩)
  have loop : ∀ k, k ≤ l → kRun r mX6_row 21 [some (.ref 55), some (.int (nI l)), some (.int (nI v)), some (.int (nI (sgl B).length)), some (.long (lN (2 ^ (2 * l) + vl ((wN (sgl B) l v).drop (l - k))))), none, some (.int (nI (v / (sgl B).length ^ k))), some (.int (nI k))] [] h Q := by
    refine up_ind ?_ (fun k hk ih => ?_)
    · refine eX6_row_21 ?_
      simp only [ks_nop, ks_aload_0, ks_iload_1, ks_iload_2, ks_iload_3, ks_iload, ks_lload, ks_istore_3, ks_istore, ks_lstore, ks_iconst, ks_lconst, ks_iinc, ks_imul, ks_idiv, ks_irem, ks_lor, ks_lshl, ks_i2l, ks_icmp_ge, ks_if_le, ks_goto, ks_get0, ks_get3, ks_get1, ks_get2, ks_inv0, ks_inv1, ks_inv2, ks_inv4, ks_inv3, ks_inv5, ks_inv6, ks_inv7, ks_inv8, ks_lret, kldi_0, kldl_0, klda_0, kldz_0, kst1_0, kst2_0, kldi_1, kldl_1, klda_1, kldz_1, kst1_1n, kst2_1n, kst1_1i, kst2_1i, kst1_1r, kst2_1r, kst1_1z, kst2_1z, kst1_1l, kst2_1l, kldi_2, kldl_2, klda_2, kldz_2, kst1_2n, kst2_2n, kst1_2i, kst2_2i, kst1_2r, kst2_2r, kst1_2z, kst2_2z, kst1_2l, kst2_2l, kldi_3, kldl_3, klda_3, kldz_3, kst1_3n, kst2_3n, kst1_3i, kst2_3i, kst1_3r, kst2_3r, kst1_3z, kst2_3z, kst1_3l, kst2_3l, kldi_4, kldl_4, klda_4, kldz_4, kst1_4n, kst2_4n, kst1_4i, kst2_4i, kst1_4r, kst2_4r, kst1_4z, kst2_4z, kst1_4l, kst2_4l, kldi_5, kldl_5, klda_5, kldz_5, kst1_5n, kst2_5n, kst1_5i, kst2_5i, kst1_5r, kst2_5r, kst1_5z, kst2_5z, kst1_5l, kst2_5l, kldi_6, kldl_6, klda_6, kldz_6, kst1_6n, kst2_6n, kst1_6i, kst2_6i, kst1_6r, kst2_6r, kst1_6z, kst2_6z, kst1_6l, kst2_6l, kldi_7, kldl_7, klda_7, kldz_7, kst1_7n, kst2_7n, kst1_7i, kst2_7i, kst1_7r, kst2_7r, kst1_7z, kst2_7z, kst1_7l, kst2_7l, kpr_r, kcat_n, kcat_i, kcat_r, kcat_z, kcat_l, kargs_0, kargs_s, kret_v, kret_n, kret_x, zl_2, jX6_row_0, bX6_row_0, jX6_row_21, bX6_row_21, jX6_row_65, bX6_row_65, Nat.reduceAdd, Nat.reduceLeDiff, Nat.reduceEqDiff, Nat.reduceSub, Nat.zero_le, Nat.add_left_cancel_iff, true_and, and_true, if_true, if_false, reduceIte, ne_eq, not_false_eq_true, Nat.add_eq_left, Nat.left_eq_add, kI_sI, kL_sI, kR_sI, kK_sI, kI_sL, kL_sL, kR_sL, kK_sL, kI_sIA, kL_sIA, kR_sIA, kK_sIA, kI_sLA, kL_sLA, kR_sLA, kK_sLA]
      try simp (disch := omega) only [a_0, a_1, a_L0, a_L1, a_lt, a_le, a_eq, a_sub, a_addn, nI_add, pk_mul, a_in, nI_clamp, a_eqn, a_eqn', a_eqn2, a_n12, eq_self, a_ltn, a_ltn', a_len, a_len', a_shl1, z_shr, fa_and, fa_or, a_tb, a_tb0, a_b0, a_b1, a_bi, a_lc0, a_lcle, a_lcge, a_lclt, a_lcgt, upd_at, upd_ne, updL_at, updL_ne, Nat.reduceAdd, Nat.reduceSub, Nat.reduceMul, Nat.reduceLT, Nat.reduceLeDiff, Nat.reduceEqDiff, true_and, and_true, if_true, if_false, reduceIte, ne_eq, not_false_eq_true, not_true_eq_false, true_implies, false_implies, Nat.not_lt, Nat.not_le, Nat.le_refl, Nat.add_sub_cancel, Nat.lt_irrefl, Nat.not_lt_zero, Nat.zero_le, Nat.testBit_shiftRight, Nat.add_zero, reduceCtorEq, true_or, or_true, or_false, false_or, Bool.true_eq_false, Bool.false_eq_true, Bool.not_eq_false, Bool.not_eq_true, Decidable.not_not]
      repeat (first | refine ⟨fun _ => ?_, fun c => absurd c (by omega)⟩ | refine ⟨fun c => absurd c (by omega), fun _ => ?_⟩)
      refine eX6_row_65 ?_
      simp only [ks_nop, ks_aload_0, ks_iload_1, ks_iload_2, ks_iload_3, ks_iload, ks_lload, ks_istore_3, ks_istore, ks_lstore, ks_iconst, ks_lconst, ks_iinc, ks_imul, ks_idiv, ks_irem, ks_lor, ks_lshl, ks_i2l, ks_icmp_ge, ks_if_le, ks_goto, ks_get0, ks_get3, ks_get1, ks_get2, ks_inv0, ks_inv1, ks_inv2, ks_inv4, ks_inv3, ks_inv5, ks_inv6, ks_inv7, ks_inv8, ks_lret, kldi_0, kldl_0, klda_0, kldz_0, kst1_0, kst2_0, kldi_1, kldl_1, klda_1, kldz_1, kst1_1n, kst2_1n, kst1_1i, kst2_1i, kst1_1r, kst2_1r, kst1_1z, kst2_1z, kst1_1l, kst2_1l, kldi_2, kldl_2, klda_2, kldz_2, kst1_2n, kst2_2n, kst1_2i, kst2_2i, kst1_2r, kst2_2r, kst1_2z, kst2_2z, kst1_2l, kst2_2l, kldi_3, kldl_3, klda_3, kldz_3, kst1_3n, kst2_3n, kst1_3i, kst2_3i, kst1_3r, kst2_3r, kst1_3z, kst2_3z, kst1_3l, kst2_3l, kldi_4, kldl_4, klda_4, kldz_4, kst1_4n, kst2_4n, kst1_4i, kst2_4i, kst1_4r, kst2_4r, kst1_4z, kst2_4z, kst1_4l, kst2_4l, kldi_5, kldl_5, klda_5, kldz_5, kst1_5n, kst2_5n, kst1_5i, kst2_5i, kst1_5r, kst2_5r, kst1_5z, kst2_5z, kst1_5l, kst2_5l, kldi_6, kldl_6, klda_6, kldz_6, kst1_6n, kst2_6n, kst1_6i, kst2_6i, kst1_6r, kst2_6r, kst1_6z, kst2_6z, kst1_6l, kst2_6l, kldi_7, kldl_7, klda_7, kldz_7, kst1_7n, kst2_7n, kst1_7i, kst2_7i, kst1_7r, kst2_7r, kst1_7z, kst2_7z, kst1_7l, kst2_7l, kpr_r, kcat_n, kcat_i, kcat_r, kcat_z, kcat_l, kargs_0, kargs_s, kret_v, kret_n, kret_x, zl_2, jX6_row_0, bX6_row_0, jX6_row_21, bX6_row_21, jX6_row_65, bX6_row_65, Nat.reduceAdd, Nat.reduceLeDiff, Nat.reduceEqDiff, Nat.reduceSub, Nat.zero_le, Nat.add_left_cancel_iff, true_and, and_true, if_true, if_false, reduceIte, ne_eq, not_false_eq_true, Nat.add_eq_left, Nat.left_eq_add, kI_sI, kL_sI, kR_sI, kK_sI, kI_sL, kL_sL, kR_sL, kK_sL, kI_sIA, kL_sIA, kR_sIA, kK_sIA, kI_sLA, kL_sLA, kR_sLA, kK_sLA]
      try simp (disch := omega) only [a_0, a_1, a_L0, a_L1, a_lt, a_le, a_eq, a_sub, a_addn, nI_add, pk_mul, a_in, nI_clamp, a_eqn, a_eqn', a_eqn2, a_n12, eq_self, a_ltn, a_ltn', a_len, a_len', a_shl1, z_shr, fa_and, fa_or, a_tb, a_tb0, a_b0, a_b1, a_bi, a_lc0, a_lcle, a_lcge, a_lclt, a_lcgt, upd_at, upd_ne, updL_at, updL_ne, Nat.reduceAdd, Nat.reduceSub, Nat.reduceMul, Nat.reduceLT, Nat.reduceLeDiff, Nat.reduceEqDiff, true_and, and_true, if_true, if_false, reduceIte, ne_eq, not_false_eq_true, not_true_eq_false, true_implies, false_implies, Nat.not_lt, Nat.not_le, Nat.le_refl, Nat.add_sub_cancel, Nat.lt_irrefl, Nat.not_lt_zero, Nat.zero_le, Nat.testBit_shiftRight, Nat.add_zero, reduceCtorEq, true_or, or_true, or_false, false_or, Bool.true_eq_false, Bool.false_eq_true, Bool.not_eq_false, Bool.not_eq_true, Decidable.not_not]
      repeat (first | refine ⟨fun _ => ?_, fun c => absurd c (by omega)⟩ | refine ⟨fun c => absurd c (by omega), fun _ => ?_⟩)
      rw [Nat.sub_self, List.drop_zero, ← p4]
      rw [cd, wl] at H
      exact H
    · have hg1 := wN_get (sl := sgl B) l v (l - (k + 1)) (by omega)
      rw [show l - 1 - (l - (k + 1)) = k by omega] at hg1
      have dl : ((wN (sgl B) l v).drop (l - k)).length = k := by rw [List.length_drop, wl]; omega
      have hd : (wN (sgl B) l v).drop (l - (k + 1)) = (wN (sgl B) l v).getD (l - (k + 1)) 0 :: (wN (sgl B) l v).drop (l - k) := by
        rw [List.drop_eq_getElem_cons (by omega), show l - (k + 1) + 1 = l - k by omega]
        congr 1
        rw [List.getD_eq_getElem?_getD, List.getElem?_eq_getElem (by omega)]
        rfl
      have tl := vl_lt (wok_drop wo (l - k))
      rw [dl, p4] at tl
      rw [hd, vl_cons, dl, hg1, p4] at ih
      have hq : v / (sgl B).length ^ k ≤ v := Nat.div_le_self _ _
      have hs2 : v / (sgl B).length ^ (k + 1) = v / (sgl B).length ^ k / (sgl B).length := by
        rw [Nat.pow_succ, Nat.div_div_eq_div_mul]
      rw [hs2] at ih
      generalize v / (sgl B).length ^ k = q at hq ih
      generalize vl ((wN (sgl B) l v).drop (l - k)) = t at tl ih
      have hm : q % (sgl B).length < (sgl B).length := Nat.mod_lt _ hp
      have sk := sgl_get (B := B) hm
      have hd' := n_div (a := q) (b := (sgl B).length) (by omega) hp (by omega)
      have hle : q / (sgl B).length * (sgl B).length ≤ q := Nat.div_mul_le_self _ _
      have hrm : q - q / (sgl B).length * (sgl B).length = q % (sgl B).length := by
        have := Nat.div_add_mod q (sgl B).length
        rw [Nat.mul_comm] at this
        omega
      have ho := or_sign (l := l) (k := k) (s := (sgl B).getD (q % (sgl B).length) 0) (t := t) hk sk tl
      have p1 : 2 ^ (2 * k) * 4 ≤ 2 ^ (2 * l) := by
        have : 2 ^ (2 * k + 2) ≤ 2 ^ (2 * l) := Nat.pow_le_pow_right (by omega) (by omega)
        rw [Nat.pow_add] at this
        omega
      have p2 : 2 ^ (2 * l) ≤ 2 ^ 40 := Nat.pow_le_pow_right (by omega) (by omega)
      have m3 : (sgl B).getD (q % (sgl B).length) 0 * 2 ^ (2 * k) ≤ 3 * 2 ^ (2 * k) := Nat.mul_le_mul_right _ (by omega)
      refine eX6_row_21 ?_
      simp only [ks_nop, ks_aload_0, ks_iload_1, ks_iload_2, ks_iload_3, ks_iload, ks_lload, ks_istore_3, ks_istore, ks_lstore, ks_iconst, ks_lconst, ks_iinc, ks_imul, ks_idiv, ks_irem, ks_lor, ks_lshl, ks_i2l, ks_icmp_ge, ks_if_le, ks_goto, ks_get0, ks_get3, ks_get1, ks_get2, ks_inv0, ks_inv1, ks_inv2, ks_inv4, ks_inv3, ks_inv5, ks_inv6, ks_inv7, ks_inv8, ks_lret, kldi_0, kldl_0, klda_0, kldz_0, kst1_0, kst2_0, kldi_1, kldl_1, klda_1, kldz_1, kst1_1n, kst2_1n, kst1_1i, kst2_1i, kst1_1r, kst2_1r, kst1_1z, kst2_1z, kst1_1l, kst2_1l, kldi_2, kldl_2, klda_2, kldz_2, kst1_2n, kst2_2n, kst1_2i, kst2_2i, kst1_2r, kst2_2r, kst1_2z, kst2_2z, kst1_2l, kst2_2l, kldi_3, kldl_3, klda_3, kldz_3, kst1_3n, kst2_3n, kst1_3i, kst2_3i, kst1_3r, kst2_3r, kst1_3z, kst2_3z, kst1_3l, kst2_3l, kldi_4, kldl_4, klda_4, kldz_4, kst1_4n, kst2_4n, kst1_4i, kst2_4i, kst1_4r, kst2_4r, kst1_4z, kst2_4z, kst1_4l, kst2_4l, kldi_5, kldl_5, klda_5, kldz_5, kst1_5n, kst2_5n, kst1_5i, kst2_5i, kst1_5r, kst2_5r, kst1_5z, kst2_5z, kst1_5l, kst2_5l, kldi_6, kldl_6, klda_6, kldz_6, kst1_6n, kst2_6n, kst1_6i, kst2_6i, kst1_6r, kst2_6r, kst1_6z, kst2_6z, kst1_6l, kst2_6l, kldi_7, kldl_7, klda_7, kldz_7, kst1_7n, kst2_7n, kst1_7i, kst2_7i, kst1_7r, kst2_7r, kst1_7z, kst2_7z, kst1_7l, kst2_7l, kpr_r, kcat_n, kcat_i, kcat_r, kcat_z, kcat_l, kargs_0, kargs_s, kret_v, kret_n, kret_x, zl_2, jX6_row_0, bX6_row_0, jX6_row_21, bX6_row_21, jX6_row_65, bX6_row_65, Nat.reduceAdd, Nat.reduceLeDiff, Nat.reduceEqDiff, Nat.reduceSub, Nat.zero_le, Nat.add_left_cancel_iff, true_and, and_true, if_true, if_false, reduceIte, ne_eq, not_false_eq_true, Nat.add_eq_left, Nat.left_eq_add, kI_sI, kL_sI, kR_sI, kK_sI, kI_sL, kL_sL, kR_sL, kK_sL, kI_sIA, kL_sIA, kR_sIA, kK_sIA, kI_sLA, kL_sLA, kR_sLA, kK_sLA, wK_55 w, wR_55_0 w, wR_55_2 w, wR_55_3 w, wK_56 w, wK_57 w, hR, g0, gK w hg, hr, hd', hrm]
      try simp (disch := omega) only [a_0, a_1, a_L0, a_L1, a_lt, a_le, a_eq, a_sub, a_addn, nI_add, pk_mul, a_in, nI_clamp, a_eqn, a_eqn', a_eqn2, a_n12, eq_self, a_ltn, a_ltn', a_len, a_len', a_shl1, z_shr, fa_and, fa_or, a_tb, a_tb0, a_b0, a_b1, a_bi, a_lc0, a_lcle, a_lcge, a_lclt, a_lcgt, upd_at, upd_ne, updL_at, updL_ne, Nat.reduceAdd, Nat.reduceSub, Nat.reduceMul, Nat.reduceLT, Nat.reduceLeDiff, Nat.reduceEqDiff, true_and, and_true, if_true, if_false, reduceIte, ne_eq, not_false_eq_true, not_true_eq_false, true_implies, false_implies, Nat.not_lt, Nat.not_le, Nat.le_refl, Nat.add_sub_cancel, Nat.lt_irrefl, Nat.not_lt_zero, Nat.zero_le, Nat.testBit_shiftRight, Nat.add_zero, reduceCtorEq, true_or, or_true, or_false, false_or, Bool.true_eq_false, Bool.false_eq_true, Bool.not_eq_false, Bool.not_eq_true, Decidable.not_not, wK_55 w, wR_55_0 w, wR_55_2 w, wR_55_3 w, wK_56 w, wK_57 w, hR, g0, gK w hg, hr, hd', hrm]
      repeat (first | refine ⟨fun _ => ?_, fun c => absurd c (by omega)⟩ | refine ⟨fun c => absurd c (by omega), fun _ => ?_⟩)
      try simp (disch := omega) only [a_0, a_1, a_L0, a_L1, a_lt, a_le, a_eq, a_sub, a_addn, nI_add, pk_mul, a_in, nI_clamp, a_eqn, a_eqn', a_eqn2, a_n12, eq_self, a_ltn, a_ltn', a_len, a_len', a_shl1, z_shr, fa_and, fa_or, a_tb, a_tb0, a_b0, a_b1, a_bi, a_lc0, a_lcle, a_lcge, a_lclt, a_lcgt, upd_at, upd_ne, updL_at, updL_ne, Nat.reduceAdd, Nat.reduceSub, Nat.reduceMul, Nat.reduceLT, Nat.reduceLeDiff, Nat.reduceEqDiff, true_and, and_true, if_true, if_false, reduceIte, ne_eq, not_false_eq_true, not_true_eq_false, true_implies, false_implies, Nat.not_lt, Nat.not_le, Nat.le_refl, Nat.add_sub_cancel, Nat.lt_irrefl, Nat.not_lt_zero, Nat.zero_le, Nat.testBit_shiftRight, Nat.add_zero, reduceCtorEq, true_or, or_true, or_false, false_or, Bool.true_eq_false, Bool.false_eq_true, Bool.not_eq_false, Bool.not_eq_true, Decidable.not_not, hd', hrm, hr]
      try simp only [hd', hrm]
      try simp (disch := omega) only [a_0, a_1, a_L0, a_L1, a_lt, a_le, a_eq, a_sub, a_addn, nI_add, pk_mul, a_in, nI_clamp, a_eqn, a_eqn', a_eqn2, a_n12, eq_self, a_ltn, a_ltn', a_len, a_len', a_shl1, z_shr, fa_and, fa_or, a_tb, a_tb0, a_b0, a_b1, a_bi, a_lc0, a_lcle, a_lcge, a_lclt, a_lcgt, upd_at, upd_ne, updL_at, updL_ne, Nat.reduceAdd, Nat.reduceSub, Nat.reduceMul, Nat.reduceLT, Nat.reduceLeDiff, Nat.reduceEqDiff, true_and, and_true, if_true, if_false, reduceIte, ne_eq, not_false_eq_true, not_true_eq_false, true_implies, false_implies, Nat.not_lt, Nat.not_le, Nat.le_refl, Nat.add_sub_cancel, Nat.lt_irrefl, Nat.not_lt_zero, Nat.zero_le, Nat.testBit_shiftRight, Nat.add_zero, reduceCtorEq, true_or, or_true, or_false, false_or, Bool.true_eq_false, Bool.false_eq_true, Bool.not_eq_false, Bool.not_eq_true, Decidable.not_not, hrm, hr]
      repeat (first | refine ⟨fun _ => ?_, fun c => absurd c (by omega)⟩ | refine ⟨fun c => absurd c (by omega), fun _ => ?_⟩)
      refine ⟨by omega, ?_⟩
      refine c_sign w hg G hm ?_
      simp only [ks_nop, ks_aload_0, ks_iload_1, ks_iload_2, ks_iload_3, ks_iload, ks_lload, ks_istore_3, ks_istore, ks_lstore, ks_iconst, ks_lconst, ks_iinc, ks_imul, ks_idiv, ks_irem, ks_lor, ks_lshl, ks_i2l, ks_icmp_ge, ks_if_le, ks_goto, ks_get0, ks_get3, ks_get1, ks_get2, ks_inv0, ks_inv1, ks_inv2, ks_inv4, ks_inv3, ks_inv5, ks_inv6, ks_inv7, ks_inv8, ks_lret, kldi_0, kldl_0, klda_0, kldz_0, kst1_0, kst2_0, kldi_1, kldl_1, klda_1, kldz_1, kst1_1n, kst2_1n, kst1_1i, kst2_1i, kst1_1r, kst2_1r, kst1_1z, kst2_1z, kst1_1l, kst2_1l, kldi_2, kldl_2, klda_2, kldz_2, kst1_2n, kst2_2n, kst1_2i, kst2_2i, kst1_2r, kst2_2r, kst1_2z, kst2_2z, kst1_2l, kst2_2l, kldi_3, kldl_3, klda_3, kldz_3, kst1_3n, kst2_3n, kst1_3i, kst2_3i, kst1_3r, kst2_3r, kst1_3z, kst2_3z, kst1_3l, kst2_3l, kldi_4, kldl_4, klda_4, kldz_4, kst1_4n, kst2_4n, kst1_4i, kst2_4i, kst1_4r, kst2_4r, kst1_4z, kst2_4z, kst1_4l, kst2_4l, kldi_5, kldl_5, klda_5, kldz_5, kst1_5n, kst2_5n, kst1_5i, kst2_5i, kst1_5r, kst2_5r, kst1_5z, kst2_5z, kst1_5l, kst2_5l, kldi_6, kldl_6, klda_6, kldz_6, kst1_6n, kst2_6n, kst1_6i, kst2_6i, kst1_6r, kst2_6r, kst1_6z, kst2_6z, kst1_6l, kst2_6l, kldi_7, kldl_7, klda_7, kldz_7, kst1_7n, kst2_7n, kst1_7i, kst2_7i, kst1_7r, kst2_7r, kst1_7z, kst2_7z, kst1_7l, kst2_7l, kpr_r, kcat_n, kcat_i, kcat_r, kcat_z, kcat_l, kargs_0, kargs_s, kret_v, kret_n, kret_x, zl_2, jX6_row_0, bX6_row_0, jX6_row_21, bX6_row_21, jX6_row_65, bX6_row_65, Nat.reduceAdd, Nat.reduceLeDiff, Nat.reduceEqDiff, Nat.reduceSub, Nat.zero_le, Nat.add_left_cancel_iff, true_and, and_true, if_true, if_false, reduceIte, ne_eq, not_false_eq_true, Nat.add_eq_left, Nat.left_eq_add, kI_sI, kL_sI, kR_sI, kK_sI, kI_sL, kL_sL, kR_sL, kK_sL, kI_sIA, kL_sIA, kR_sIA, kK_sIA, kI_sLA, kL_sLA, kR_sLA, kK_sLA, hd']
      try simp (disch := omega) only [a_0, a_1, a_L0, a_L1, a_lt, a_le, a_eq, a_sub, a_addn, nI_add, pk_mul, a_in, nI_clamp, a_eqn, a_eqn', a_eqn2, a_n12, eq_self, a_ltn, a_ltn', a_len, a_len', a_shl1, z_shr, fa_and, fa_or, a_tb, a_tb0, a_b0, a_b1, a_bi, a_lc0, a_lcle, a_lcge, a_lclt, a_lcgt, upd_at, upd_ne, updL_at, updL_ne, Nat.reduceAdd, Nat.reduceSub, Nat.reduceMul, Nat.reduceLT, Nat.reduceLeDiff, Nat.reduceEqDiff, true_and, and_true, if_true, if_false, reduceIte, ne_eq, not_false_eq_true, not_true_eq_false, true_implies, false_implies, Nat.not_lt, Nat.not_le, Nat.le_refl, Nat.add_sub_cancel, Nat.lt_irrefl, Nat.not_lt_zero, Nat.zero_le, Nat.testBit_shiftRight, Nat.add_zero, reduceCtorEq, true_or, or_true, or_false, false_or, Bool.true_eq_false, Bool.false_eq_true, Bool.not_eq_false, Bool.not_eq_true, Decidable.not_not, hd']
      repeat (first | refine ⟨fun _ => ?_, fun c => absurd c (by omega)⟩ | refine ⟨fun c => absurd c (by omega), fun _ => ?_⟩)
      rw [i64_4 _ sk, L_lsl (by omega), L_or (by omega) (by omega), ho]
      exact ⟨by omega, ih⟩
  rw [L_lsl (by omega), Nat.one_mul]
  have := loop 0 (by omega)
  rw [Nat.sub_zero, List.drop_of_length_le (by omega), Nat.pow_zero, Nat.div_one, show vl [] = 0 from rfl, Nat.add_zero] at this
  exact this
def mk4 (h : KH) (n : Nat) : KH := sR (knew (sR (knew (sR (knew (sR (knew h (2, n) n) 55 4 (kN h + 1)) (2, n) n) 55 5 (kN h + 1 + 1)) (3, n) n) 55 6 (kN h + 1 + 1 + 1)) (1, n) n) 55 7 (kN h + 1 + 1 + 1 + 1)
theorem mk4_N (h : KH) (n : Nat) : kN (mk4 h n) = kN h + 4 := rfl
theorem mk4_K (h : KH) (n : Nat) : kK (mk4 h n) (kN h + 1) = (2, n) ∧ kK (mk4 h n) (kN h + 2) = (2, n) ∧ kK (mk4 h n) (kN h + 3) = (3, n) ∧ kK (mk4 h n) (kN h + 4) = (1, n) := by
  simp only [mk4, kK_sR, kK_new, kN_sR, kN_new]
  refine ⟨?_, ?_, ?_, ?_⟩
  · rw [if_neg (by omega), if_neg (by omega), if_neg (by omega), if_pos trivial]
  · rw [if_neg (by omega), if_neg (by omega), if_pos trivial]
  · rw [if_neg (by omega), if_pos trivial]
  · rw [if_pos trivial]
theorem mk4_R (h : KH) (n : Nat) (hk : 105 ≤ kN h) : kR (mk4 h n) 55 4 = kN h + 1 ∧ kR (mk4 h n) 55 5 = kN h + 2 ∧ kR (mk4 h n) 55 6 = kN h + 3 ∧ kR (mk4 h n) 55 7 = kN h + 4 := by
  have e1 : ¬ 55 = kN h + 1 := by omega
  have e2 : ¬ 55 = kN h + 1 + 1 := by omega
  have e3 : ¬ 55 = kN h + 1 + 1 + 1 := by omega
  have e4 : ¬ 55 = kN h + 1 + 1 + 1 + 1 := by omega
  simp [mk4, kR_sR, kR_new, kN_sR, kN_new, va_up, e1, e2, e3, e4]
theorem mk4_F (h : KH) (n : Nat) : FX [] [] [(55, 4), (55, 5), (55, 6), (55, 7)] h (mk4 h n) :=
  FX_sR (FX_new (FX_sR (FX_new (FX_sR (FX_new (FX_sR (FX_new (FX_rf _ _ _ _)) (by simp))) (by simp))) (by simp))) (by simp)
theorem c_makeRows {n : Nat} (w : kW h) (hk : 105 ≤ kN h) (L : SWL h a b c d N) (hb : a ≤ kN h ∧ b ≤ kN h ∧ c ≤ kN h ∧ d ≤ kN h) (hN2 : N ≤ 100000) (hn : n ≤ 100000)
    (H : ∀ h' a' b' c' d' N', FX [] [] [(55, 4), (55, 5), (55, 6), (55, 7)] h h' → SWL h' a' b' c' d' N' → n ≤ N' → N' ≤ 100000 → (a' = a ∧ b' = b ∧ c' = c ∧ d' = d ∨ kN h < a' ∧ kN h < b' ∧ kN h < c' ∧ kN h < d') → (a' ≤ kN h' ∧ b' ≤ kN h' ∧ c' ≤ kN h' ∧ d' ≤ kN h') → G4 N N' n h h' → Q (.inl none) h') : kCalls r yX6_makeRows [.ref 55, .int (nI n)] h Q := by
  have L0 := L
  obtain ⟨⟨a1, a2, a3, a4⟩, ⟨b1, b2, b3, b4⟩, ⟨da, db, dc, dd⟩, nab⟩ := L
  have d0 := isD_0 dd
  have e1 : ¬ 55 = kN h + 1 := by omega
  have e2 : ¬ 55 = kN h + 1 + 1 := by omega
  have e3 : ¬ 55 = kN h + 1 + 1 + 1 := by omega
  have e4 : ¬ 55 = kN h + 1 + 1 + 1 + 1 := by omega
  have fin : ∀ h' a' b' c' d' N', FX [] [] [(55, 4), (55, 5), (55, 6), (55, 7)] h h' → SWL h' a' b' c' d' N' → n ≤ N' → N' ≤ 100000 → (a' = a ∧ b' = b ∧ c' = c ∧ d' = d ∨ kN h < a' ∧ kN h < b' ∧ kN h < c' ∧ kN h < d') → (a' ≤ kN h' ∧ b' ≤ kN h' ∧ c' ≤ kN h' ∧ d' ≤ kN h') → G4 N N' n h h' → kRun r mX6_makeRows 37 [some (.ref 55), some (.int (nI n))] [] h' Q := by
    intro h' a' b' c' d' N' q1 q2 q3 q4 q5 q6 q7
    refine eX6_makeRows_37 ?_
    simp only [ks_nop, ks_aload_0, ks_iload_1, ks_icmp_le, ks_get0, ks_get3, ks_get1, ks_get2, ks_put0, ks_put1, ks_put2, ks_put3, ks_alen, ks_slen, ks_newa, ks_vret, kldi_0, kldl_0, klda_0, kldz_0, kst1_0, kst2_0, kldi_1, kldl_1, klda_1, kldz_1, kst1_1n, kst2_1n, kst1_1i, kst2_1i, kst1_1r, kst2_1r, kst1_1z, kst2_1z, kst1_1l, kst2_1l, kcat_n, kcat_i, kcat_r, kcat_z, kcat_l, jX6_makeRows_0, bX6_makeRows_0, jX6_makeRows_37, bX6_makeRows_37, Nat.reduceAdd, Nat.reduceLeDiff, Nat.reduceEqDiff, Nat.reduceSub, Nat.zero_le, Nat.add_left_cancel_iff, true_and, and_true, if_true, if_false, reduceIte, ne_eq, not_false_eq_true, Nat.add_eq_left, Nat.left_eq_add, kI_sI, kL_sI, kR_sI, kK_sI, kI_sL, kL_sL, kR_sL, kK_sL, kI_sIA, kL_sIA, kR_sIA, kK_sIA, kI_sLA, kL_sLA, kR_sLA, kK_sLA]
    try simp (disch := omega) only [a_0, a_1, a_L0, a_L1, a_lt, a_le, a_eq, a_sub, a_addn, nI_add, pk_mul, a_in, nI_clamp, a_eqn, a_eqn', a_eqn2, a_n12, eq_self, a_ltn, a_ltn', a_len, a_len', a_shl1, z_shr, fa_and, fa_or, a_tb, a_tb0, a_b0, a_b1, a_bi, a_lc0, a_lcle, a_lcge, a_lclt, a_lcgt, upd_at, upd_ne, updL_at, updL_ne, Nat.reduceAdd, Nat.reduceSub, Nat.reduceMul, Nat.reduceLT, Nat.reduceLeDiff, Nat.reduceEqDiff, true_and, and_true, if_true, if_false, reduceIte, ne_eq, not_false_eq_true, not_true_eq_false, true_implies, false_implies, Nat.not_lt, Nat.not_le, Nat.le_refl, Nat.add_sub_cancel, Nat.lt_irrefl, Nat.not_lt_zero, Nat.zero_le, Nat.testBit_shiftRight, Nat.add_zero, reduceCtorEq, true_or, or_true, or_false, false_or, Bool.true_eq_false, Bool.false_eq_true, Bool.not_eq_false, Bool.not_eq_true, Decidable.not_not]
    repeat (first | refine ⟨fun _ => ?_, fun c => absurd c (by omega)⟩ | refine ⟨fun c => absurd c (by omega), fun _ => ?_⟩)
    exact H h' a' b' c' d' N' q1 q2 q3 q4 q5 q6 q7
  refine sX6_makeRows _ _ ?_
  refine eX6_makeRows_0 ?_
  simp only [ks_nop, ks_aload_0, ks_iload_1, ks_icmp_le, ks_get0, ks_get3, ks_get1, ks_get2, ks_put0, ks_put1, ks_put2, ks_put3, ks_alen, ks_slen, ks_newa, ks_vret, kldi_0, kldl_0, klda_0, kldz_0, kst1_0, kst2_0, kldi_1, kldl_1, klda_1, kldz_1, kst1_1n, kst2_1n, kst1_1i, kst2_1i, kst1_1r, kst2_1r, kst1_1z, kst2_1z, kst1_1l, kst2_1l, kcat_n, kcat_i, kcat_r, kcat_z, kcat_l, jX6_makeRows_0, bX6_makeRows_0, jX6_makeRows_37, bX6_makeRows_37, Nat.reduceAdd, Nat.reduceLeDiff, Nat.reduceEqDiff, Nat.reduceSub, Nat.zero_le, Nat.add_left_cancel_iff, true_and, and_true, if_true, if_false, reduceIte, ne_eq, not_false_eq_true, Nat.add_eq_left, Nat.left_eq_add, kI_sI, kL_sI, kR_sI, kK_sI, kI_sL, kL_sL, kR_sL, kK_sL, kI_sIA, kL_sIA, kR_sIA, kK_sIA, kI_sLA, kL_sLA, kR_sLA, kK_sLA, wK_55 w, wR_55_0 w, wR_55_2 w, wR_55_3 w, wK_56 w, wK_57 w, a4, d0, b4]
  try simp (disch := omega) only [a_0, a_1, a_L0, a_L1, a_lt, a_le, a_eq, a_sub, a_addn, nI_add, pk_mul, a_in, nI_clamp, a_eqn, a_eqn', a_eqn2, a_n12, eq_self, a_ltn, a_ltn', a_len, a_len', a_shl1, z_shr, fa_and, fa_or, a_tb, a_tb0, a_b0, a_b1, a_bi, a_lc0, a_lcle, a_lcge, a_lclt, a_lcgt, upd_at, upd_ne, updL_at, updL_ne, Nat.reduceAdd, Nat.reduceSub, Nat.reduceMul, Nat.reduceLT, Nat.reduceLeDiff, Nat.reduceEqDiff, true_and, and_true, if_true, if_false, reduceIte, ne_eq, not_false_eq_true, not_true_eq_false, true_implies, false_implies, Nat.not_lt, Nat.not_le, Nat.le_refl, Nat.add_sub_cancel, Nat.lt_irrefl, Nat.not_lt_zero, Nat.zero_le, Nat.testBit_shiftRight, Nat.add_zero, reduceCtorEq, true_or, or_true, or_false, false_or, Bool.true_eq_false, Bool.false_eq_true, Bool.not_eq_false, Bool.not_eq_true, Decidable.not_not]
  refine ⟨fun q => fin h a b c d N (FX_rf _ _ _ _) L0 q hN2 (Or.inl ⟨rfl, rfl, rfl, rfl⟩) hb (Or.inl ⟨rfl, rfl, rfl⟩), fun q => ?_⟩
  simp only [kK_new, kK_sR, kN_new, kN_sR, e1, e2, e3, e4, if_false, wK_55 w, true_and, ne_eq, Nat.add_eq_zero_iff, Nat.succ_ne_self, and_false, not_false_eq_true, reduceCtorEq, Nat.one_ne_zero]
  try simp (disch := omega) only [a_0, a_1, a_L0, a_L1, a_lt, a_le, a_eq, a_sub, a_addn, nI_add, pk_mul, a_in, nI_clamp, a_eqn, a_eqn', a_eqn2, a_n12, eq_self, a_ltn, a_ltn', a_len, a_len', a_shl1, z_shr, fa_and, fa_or, a_tb, a_tb0, a_b0, a_b1, a_bi, a_lc0, a_lcle, a_lcge, a_lclt, a_lcgt, upd_at, upd_ne, updL_at, updL_ne, Nat.reduceAdd, Nat.reduceSub, Nat.reduceMul, Nat.reduceLT, Nat.reduceLeDiff, Nat.reduceEqDiff, true_and, and_true, if_true, if_false, reduceIte, ne_eq, not_false_eq_true, not_true_eq_false, true_implies, false_implies, Nat.not_lt, Nat.not_le, Nat.le_refl, Nat.add_sub_cancel, Nat.lt_irrefl, Nat.not_lt_zero, Nat.zero_le, Nat.testBit_shiftRight, Nat.add_zero, reduceCtorEq, true_or, or_true, or_false, false_or, Bool.true_eq_false, Bool.false_eq_true, Bool.not_eq_false, Bool.not_eq_true, Decidable.not_not]
  have R := mk4_R h n hk
  have K := mk4_K h n
  have F := mk4_F h n
  refine ⟨by omega, by omega, by omega, by omega, ?_⟩
  refine fin (mk4 h n) _ _ _ _ n F ⟨R, K, ?_, by omega⟩ (Nat.le_refl _) hn (Or.inr (by omega)) (by rw [mk4_N]; omega) (Or.inr ⟨by omega, rfl, rfl, by show kS h + n + n + n + n = _; omega⟩)
  unfold isD
  omega
theorem c_Sbegin (hr : 2 ≤ r) (w : kW h) (hg : isG g) (G : GQ h g B nn) (hk : 105 ≤ kN h) (L : SWL h a b c d N) (hb : a ≤ kN h ∧ b ≤ kN h ∧ c ≤ kN h ∧ d ≤ kN h) (hN2 : N ≤ 100000)
    (H : ∀ h' a' b' c' d' N', FX [55, 56, 57] [] [(55, 1), (55, 4), (55, 5), (55, 6), (55, 7)] h h' → kR h' 55 1 = g → kI h' 55 8 = nI 0 → kI h' 55 9 = nI 0 → AMS h' B → SWL h' a' b' c' d' N' → fFr (sgl B).length 7 ≤ N' → N' ≤ 100000 → (a' = a ∧ b' = b ∧ c' = c ∧ d' = d ∨ kN h < a' ∧ kN h < b' ∧ kN h < c' ∧ kN h < d') → (a' ≤ kN h' ∧ b' ≤ kN h' ∧ c' ≤ kN h' ∧ d' ≤ kN h') → G4 N N' (fFr (sgl B).length 7) h h' → Q (.inl none) h') : kCalls r yX6_begin [.ref 55, .ref g] h Q := by
  have w0 := w
  have s4 := sgl_len B
  have g0 : ¬ g = 0 := by rcases hg with rfl | rfl <;> omega
  have g25 : g ≤ 14 := by rcases hg with rfl | rfl <;> omega
  have st : ∀ h', FX [55, 56, 57] [] [(55, 1)] h h' → kW h' ∧ GQ h' g B nn ∧ SWL h' a b c d N ∧ 105 ≤ kN h' := by
    intro h' f
    have f0 := f
    obtain ⟨q1, q2, q3, q4, q5⟩ := f
    refine ⟨FX_W f0 (by decide) hk w0, ?_, ?_, by omega⟩
    · unfold GQ at G ⊢
      rw [q2 g (by omega) (by simp; omega), q2 (g + 2) (by omega) (by simp; omega), q2 (g + 3) (by omega) (by simp; omega), q2 (g + 4) (by omega) (by simp; omega), q2 (g + 5) (by omega) (by simp; omega), q2 (g + 6) (by omega) (by simp; omega), q2 (g + 7) (by omega) (by simp; omega), q3 g (by omega) (by simp), q3 (g + 8) (by omega) (by simp), q3 (g + 9) (by omega) (by simp), q3 (g + 10) (by omega) (by simp), q3 (g + 11) (by omega) (by simp)]
      exact G
    · unfold SWL at L ⊢
      rw [q5 55 4 (by omega) (by simp), q5 55 5 (by omega) (by simp), q5 55 6 (by omega) (by simp), q5 55 7 (by omega) (by simp), q4 a (by omega), q4 b (by omega), q4 c (by omega), q4 d (by omega)]
      exact L
  have loop : ∀ k, k ≤ 6 → ∀ h', FX [55, 56, 57] [] [(55, 1)] h h' → (kC h' = kC h ∧ kS h' = kS h) → kR h' 55 1 = g → kI h' 55 8 = nI 0 → kI h' 55 9 = nI 0 → (∀ l, l ≤ k → kI h' 56 l = nI ((sgl B).length ^ l)) → (∀ l, 1 ≤ l → l ≤ k + 1 → kI h' 57 l = nI (fFr (sgl B).length l)) → kRun r mX6_begin 31 [some (.ref 55), some (.ref g), some (.int (nI (k + 1)))] [] h' Q := by
    refine up_ind ?_ (fun k hk6 ih => ?_)
    · intro h' f sk k1 k8 k9 K1 K2
      obtain ⟨w, G', L', hk'⟩ := st h' f
      have k7 := K2 7 (by omega) (by omega)
      have fb := fFr_b s4 (l := 6) (by omega)
      rw [show 6 + 1 = 7 from rfl] at fb
      refine eX6_begin_31 ?_
      simp only [ks_nop, ks_aload_0, ks_aload_1, ks_iload_2, ks_istore_2, ks_iconst, ks_bipush, ks_iinc, ks_iadd, ks_isub, ks_imul, ks_icmp_gt, ks_goto, ks_get0, ks_get3, ks_get1, ks_get2, ks_put0, ks_put1, ks_put2, ks_put3, ks_iald, ks_sld, ks_iast, ks_inv0, ks_inv1, ks_inv2, ks_inv4, ks_inv3, ks_inv5, ks_inv6, ks_inv7, ks_inv8, ks_vret, kldi_0, kldl_0, klda_0, kldz_0, kst1_0, kst2_0, kldi_1, kldl_1, klda_1, kldz_1, kst1_1n, kst2_1n, kst1_1i, kst2_1i, kst1_1r, kst2_1r, kst1_1z, kst2_1z, kst1_1l, kst2_1l, kldi_2, kldl_2, klda_2, kldz_2, kst1_2n, kst2_2n, kst1_2i, kst2_2i, kst1_2r, kst2_2r, kst1_2z, kst2_2z, kst1_2l, kst2_2l, kpr_r, kcat_n, kcat_i, kcat_r, kcat_z, kcat_l, kargs_0, kargs_s, kret_v, kret_n, kret_x, zl_6, zl_7, jX6_begin_0, bX6_begin_0, jX6_begin_31, bX6_begin_31, jX6_begin_86, bX6_begin_86, Nat.reduceAdd, Nat.reduceLeDiff, Nat.reduceEqDiff, Nat.reduceSub, Nat.zero_le, Nat.add_left_cancel_iff, true_and, and_true, if_true, if_false, reduceIte, ne_eq, not_false_eq_true, Nat.add_eq_left, Nat.left_eq_add, kI_sI, kL_sI, kR_sI, kK_sI, kI_sL, kL_sL, kR_sL, kK_sL, kI_sIA, kL_sIA, kR_sIA, kK_sIA, kI_sLA, kL_sLA, kR_sLA, kK_sLA, wK_55 w, wR_55_0 w, wR_55_2 w, wR_55_3 w, wK_56 w, wK_57 w, k7, hr]
      try simp (disch := omega) only [a_0, a_1, a_L0, a_L1, a_lt, a_le, a_eq, a_sub, a_addn, nI_add, pk_mul, a_in, nI_clamp, a_eqn, a_eqn', a_eqn2, a_n12, eq_self, a_ltn, a_ltn', a_len, a_len', a_shl1, z_shr, fa_and, fa_or, a_tb, a_tb0, a_b0, a_b1, a_bi, a_lc0, a_lcle, a_lcge, a_lclt, a_lcgt, upd_at, upd_ne, updL_at, updL_ne, Nat.reduceAdd, Nat.reduceSub, Nat.reduceMul, Nat.reduceLT, Nat.reduceLeDiff, Nat.reduceEqDiff, true_and, and_true, if_true, if_false, reduceIte, ne_eq, not_false_eq_true, not_true_eq_false, true_implies, false_implies, Nat.not_lt, Nat.not_le, Nat.le_refl, Nat.add_sub_cancel, Nat.lt_irrefl, Nat.not_lt_zero, Nat.zero_le, Nat.testBit_shiftRight, Nat.add_zero, reduceCtorEq, true_or, or_true, or_false, false_or, Bool.true_eq_false, Bool.false_eq_true, Bool.not_eq_false, Bool.not_eq_true, Decidable.not_not, wK_55 w, wR_55_0 w, wR_55_2 w, wR_55_3 w, wK_56 w, wK_57 w, k7, hr]
      repeat (first | refine ⟨fun _ => ?_, fun c => absurd c (by omega)⟩ | refine ⟨fun c => absurd c (by omega), fun _ => ?_⟩)
      have hN : kN h ≤ kN h' := f.1
      refine c_makeRows w hk' L' (by omega) hN2 (by omega) (fun h2 a' b' c' d' N' f2 L2 n1 n2 alt bd g4 => ?_)
      simp only [ks_nop, ks_aload_0, ks_aload_1, ks_iload_2, ks_istore_2, ks_iconst, ks_bipush, ks_iinc, ks_iadd, ks_isub, ks_imul, ks_icmp_gt, ks_goto, ks_get0, ks_get3, ks_get1, ks_get2, ks_put0, ks_put1, ks_put2, ks_put3, ks_iald, ks_sld, ks_iast, ks_inv0, ks_inv1, ks_inv2, ks_inv4, ks_inv3, ks_inv5, ks_inv6, ks_inv7, ks_inv8, ks_vret, kldi_0, kldl_0, klda_0, kldz_0, kst1_0, kst2_0, kldi_1, kldl_1, klda_1, kldz_1, kst1_1n, kst2_1n, kst1_1i, kst2_1i, kst1_1r, kst2_1r, kst1_1z, kst2_1z, kst1_1l, kst2_1l, kldi_2, kldl_2, klda_2, kldz_2, kst1_2n, kst2_2n, kst1_2i, kst2_2i, kst1_2r, kst2_2r, kst1_2z, kst2_2z, kst1_2l, kst2_2l, kpr_r, kcat_n, kcat_i, kcat_r, kcat_z, kcat_l, kargs_0, kargs_s, kret_v, kret_n, kret_x, zl_6, zl_7, jX6_begin_0, bX6_begin_0, jX6_begin_31, bX6_begin_31, jX6_begin_86, bX6_begin_86, Nat.reduceAdd, Nat.reduceLeDiff, Nat.reduceEqDiff, Nat.reduceSub, Nat.zero_le, Nat.add_left_cancel_iff, true_and, and_true, if_true, if_false, reduceIte, ne_eq, not_false_eq_true, Nat.add_eq_left, Nat.left_eq_add, kI_sI, kL_sI, kR_sI, kK_sI, kI_sL, kL_sL, kR_sL, kK_sL, kI_sIA, kL_sIA, kR_sIA, kK_sIA, kI_sLA, kL_sLA, kR_sLA, kK_sLA]
      try simp (disch := omega) only [a_0, a_1, a_L0, a_L1, a_lt, a_le, a_eq, a_sub, a_addn, nI_add, pk_mul, a_in, nI_clamp, a_eqn, a_eqn', a_eqn2, a_n12, eq_self, a_ltn, a_ltn', a_len, a_len', a_shl1, z_shr, fa_and, fa_or, a_tb, a_tb0, a_b0, a_b1, a_bi, a_lc0, a_lcle, a_lcge, a_lclt, a_lcgt, upd_at, upd_ne, updL_at, updL_ne, Nat.reduceAdd, Nat.reduceSub, Nat.reduceMul, Nat.reduceLT, Nat.reduceLeDiff, Nat.reduceEqDiff, true_and, and_true, if_true, if_false, reduceIte, ne_eq, not_false_eq_true, not_true_eq_false, true_implies, false_implies, Nat.not_lt, Nat.not_le, Nat.le_refl, Nat.add_sub_cancel, Nat.lt_irrefl, Nat.not_lt_zero, Nat.zero_le, Nat.testBit_shiftRight, Nat.add_zero, reduceCtorEq, true_or, or_true, or_false, false_or, Bool.true_eq_false, Bool.false_eq_true, Bool.not_eq_false, Bool.not_eq_true, Decidable.not_not]
      repeat (first | refine ⟨fun _ => ?_, fun c => absurd c (by omega)⟩ | refine ⟨fun c => absurd c (by omega), fun _ => ?_⟩)
      have f2' : FX [55, 56, 57] [] [(55, 1), (55, 4), (55, 5), (55, 6), (55, 7)] h h2 := FX_tr (FX_tr (FX_rf _ _ _ _) f (by simp) (by simp) (by simp)) f2 (by simp) (by simp) (by simp)
      have e55 : kI h2 55 = kI h' 55 := f2.2.1 55 (by omega) (by simp)
      have e56 : kI h2 56 = kI h' 56 := f2.2.1 56 (by omega) (by simp)
      have e57 : kI h2 57 = kI h' 57 := f2.2.1 57 (by omega) (by simp)
      refine H h2 a' b' c' d' N' f2' ?_ ?_ ?_ ?_ L2 n1 n2 ?_ bd (by unfold G4 at g4 ⊢; rw [sk.1, sk.2] at g4; exact g4)
      · rw [f2.2.2.2.2 55 1 (by omega) (by simp)]; exact k1
      · rw [e55]; exact k8
      · rw [e55]; exact k9
      · unfold AMS
        rw [e56, e57]
        exact ⟨fun l _ q => K1 l q, K2⟩
      · omega
    · intro h' f sk k1 k8 k9 K1 K2
      obtain ⟨w, G', L', hk'⟩ := st h' f
      have kk := K1 k (Nat.le_refl _)
      have kf := K2 (k + 1) (by omega) (by omega)
      have pb := pw_b s4 (l := k) (by omega)
      have pb1 := pw_b s4 (l := k + 1) (by omega)
      have ps : (sgl B).length ^ k * (sgl B).length = (sgl B).length ^ (k + 1) := (Nat.pow_succ _ _).symm
      have fs := fFr_s (n := (sgl B).length) (l := k + 1) (by omega)
      have fb := fFr_b s4 (l := k + 1) (by omega)
      refine eX6_begin_31 ?_
      simp only [ks_nop, ks_aload_0, ks_aload_1, ks_iload_2, ks_istore_2, ks_iconst, ks_bipush, ks_iinc, ks_iadd, ks_isub, ks_imul, ks_icmp_gt, ks_goto, ks_get0, ks_get3, ks_get1, ks_get2, ks_put0, ks_put1, ks_put2, ks_put3, ks_iald, ks_sld, ks_iast, ks_inv0, ks_inv1, ks_inv2, ks_inv4, ks_inv3, ks_inv5, ks_inv6, ks_inv7, ks_inv8, ks_vret, kldi_0, kldl_0, klda_0, kldz_0, kst1_0, kst2_0, kldi_1, kldl_1, klda_1, kldz_1, kst1_1n, kst2_1n, kst1_1i, kst2_1i, kst1_1r, kst2_1r, kst1_1z, kst2_1z, kst1_1l, kst2_1l, kldi_2, kldl_2, klda_2, kldz_2, kst1_2n, kst2_2n, kst1_2i, kst2_2i, kst1_2r, kst2_2r, kst1_2z, kst2_2z, kst1_2l, kst2_2l, kpr_r, kcat_n, kcat_i, kcat_r, kcat_z, kcat_l, kargs_0, kargs_s, kret_v, kret_n, kret_x, zl_6, zl_7, jX6_begin_0, bX6_begin_0, jX6_begin_31, bX6_begin_31, jX6_begin_86, bX6_begin_86, Nat.reduceAdd, Nat.reduceLeDiff, Nat.reduceEqDiff, Nat.reduceSub, Nat.zero_le, Nat.add_left_cancel_iff, true_and, and_true, if_true, if_false, reduceIte, ne_eq, not_false_eq_true, Nat.add_eq_left, Nat.left_eq_add, kI_sI, kL_sI, kR_sI, kK_sI, kI_sL, kL_sL, kR_sL, kK_sL, kI_sIA, kL_sIA, kR_sIA, kK_sIA, kI_sLA, kL_sLA, kR_sLA, kK_sLA, wK_55 w, wR_55_0 w, wR_55_2 w, wR_55_3 w, wK_56 w, wK_57 w, kk, k1, g0, gK w hg, hr]
      try simp (disch := omega) only [a_0, a_1, a_L0, a_L1, a_lt, a_le, a_eq, a_sub, a_addn, nI_add, pk_mul, a_in, nI_clamp, a_eqn, a_eqn', a_eqn2, a_n12, eq_self, a_ltn, a_ltn', a_len, a_len', a_shl1, z_shr, fa_and, fa_or, a_tb, a_tb0, a_b0, a_b1, a_bi, a_lc0, a_lcle, a_lcge, a_lclt, a_lcgt, upd_at, upd_ne, updL_at, updL_ne, Nat.reduceAdd, Nat.reduceSub, Nat.reduceMul, Nat.reduceLT, Nat.reduceLeDiff, Nat.reduceEqDiff, true_and, and_true, if_true, if_false, reduceIte, ne_eq, not_false_eq_true, not_true_eq_false, true_implies, false_implies, Nat.not_lt, Nat.not_le, Nat.le_refl, Nat.add_sub_cancel, Nat.lt_irrefl, Nat.not_lt_zero, Nat.zero_le, Nat.testBit_shiftRight, Nat.add_zero, reduceCtorEq, true_or, or_true, or_false, false_or, Bool.true_eq_false, Bool.false_eq_true, Bool.not_eq_false, Bool.not_eq_true, Decidable.not_not, wK_55 w, wR_55_0 w, wR_55_2 w, wR_55_3 w, wK_56 w, wK_57 w, kk, k1, g0, gK w hg, hr]
      repeat (first | refine ⟨fun _ => ?_, fun c => absurd c (by omega)⟩ | refine ⟨fun c => absurd c (by omega), fun _ => ?_⟩)
      refine c_signCount w hg G' ?_
      simp only [ks_nop, ks_aload_0, ks_aload_1, ks_iload_2, ks_istore_2, ks_iconst, ks_bipush, ks_iinc, ks_iadd, ks_isub, ks_imul, ks_icmp_gt, ks_goto, ks_get0, ks_get3, ks_get1, ks_get2, ks_put0, ks_put1, ks_put2, ks_put3, ks_iald, ks_sld, ks_iast, ks_inv0, ks_inv1, ks_inv2, ks_inv4, ks_inv3, ks_inv5, ks_inv6, ks_inv7, ks_inv8, ks_vret, kldi_0, kldl_0, klda_0, kldz_0, kst1_0, kst2_0, kldi_1, kldl_1, klda_1, kldz_1, kst1_1n, kst2_1n, kst1_1i, kst2_1i, kst1_1r, kst2_1r, kst1_1z, kst2_1z, kst1_1l, kst2_1l, kldi_2, kldl_2, klda_2, kldz_2, kst1_2n, kst2_2n, kst1_2i, kst2_2i, kst1_2r, kst2_2r, kst1_2z, kst2_2z, kst1_2l, kst2_2l, kpr_r, kcat_n, kcat_i, kcat_r, kcat_z, kcat_l, kargs_0, kargs_s, kret_v, kret_n, kret_x, zl_6, zl_7, jX6_begin_0, bX6_begin_0, jX6_begin_31, bX6_begin_31, jX6_begin_86, bX6_begin_86, Nat.reduceAdd, Nat.reduceLeDiff, Nat.reduceEqDiff, Nat.reduceSub, Nat.zero_le, Nat.add_left_cancel_iff, true_and, and_true, if_true, if_false, reduceIte, ne_eq, not_false_eq_true, Nat.add_eq_left, Nat.left_eq_add, kI_sI, kL_sI, kR_sI, kK_sI, kI_sL, kL_sL, kR_sL, kK_sL, kI_sIA, kL_sIA, kR_sIA, kK_sIA, kI_sLA, kL_sLA, kR_sLA, kK_sLA, wK_55 w, wR_55_0 w, wR_55_2 w, wR_55_3 w, wK_56 w, wK_57 w, ps, kf]
      try simp (disch := omega) only [a_0, a_1, a_L0, a_L1, a_lt, a_le, a_eq, a_sub, a_addn, nI_add, pk_mul, a_in, nI_clamp, a_eqn, a_eqn', a_eqn2, a_n12, eq_self, a_ltn, a_ltn', a_len, a_len', a_shl1, z_shr, fa_and, fa_or, a_tb, a_tb0, a_b0, a_b1, a_bi, a_lc0, a_lcle, a_lcge, a_lclt, a_lcgt, upd_at, upd_ne, updL_at, updL_ne, Nat.reduceAdd, Nat.reduceSub, Nat.reduceMul, Nat.reduceLT, Nat.reduceLeDiff, Nat.reduceEqDiff, true_and, and_true, if_true, if_false, reduceIte, ne_eq, not_false_eq_true, not_true_eq_false, true_implies, false_implies, Nat.not_lt, Nat.not_le, Nat.le_refl, Nat.add_sub_cancel, Nat.lt_irrefl, Nat.not_lt_zero, Nat.zero_le, Nat.testBit_shiftRight, Nat.add_zero, reduceCtorEq, true_or, or_true, or_false, false_or, Bool.true_eq_false, Bool.false_eq_true, Bool.not_eq_false, Bool.not_eq_true, Decidable.not_not, wK_55 w, wR_55_0 w, wR_55_2 w, wR_55_3 w, wK_56 w, wK_57 w, ps, kf]
      repeat (first | refine ⟨fun _ => ?_, fun c => absurd c (by omega)⟩ | refine ⟨fun c => absurd c (by omega), fun _ => ?_⟩)
      try simp only [ps]
      try simp (disch := omega) only [a_0, a_1, a_L0, a_L1, a_lt, a_le, a_eq, a_sub, a_addn, nI_add, pk_mul, a_in, nI_clamp, a_eqn, a_eqn', a_eqn2, a_n12, eq_self, a_ltn, a_ltn', a_len, a_len', a_shl1, z_shr, fa_and, fa_or, a_tb, a_tb0, a_b0, a_b1, a_bi, a_lc0, a_lcle, a_lcge, a_lclt, a_lcgt, upd_at, upd_ne, updL_at, updL_ne, Nat.reduceAdd, Nat.reduceSub, Nat.reduceMul, Nat.reduceLT, Nat.reduceLeDiff, Nat.reduceEqDiff, true_and, and_true, if_true, if_false, reduceIte, ne_eq, not_false_eq_true, not_true_eq_false, true_implies, false_implies, Nat.not_lt, Nat.not_le, Nat.le_refl, Nat.add_sub_cancel, Nat.lt_irrefl, Nat.not_lt_zero, Nat.zero_le, Nat.testBit_shiftRight, Nat.add_zero, reduceCtorEq, true_or, or_true, or_false, false_or, Bool.true_eq_false, Bool.false_eq_true, Bool.not_eq_false, Bool.not_eq_true, Decidable.not_not, kf, ← fs]
      try rw [← fs]
      refine ih (sI (sI h' 56 (k + 1) (nI ((sgl B).length ^ (k + 1)))) 57 (k + 1 + 1) (nI (fFr (sgl B).length (k + 1 + 1)))) (FX_sI (FX_sI f (by simp)) (by simp)) sk k1 ?_ ?_ ?_ ?_
      · rw [kI_sI, if_neg (by omega), kI_sI, if_neg (by omega)]; exact k8
      · rw [kI_sI, if_neg (by omega), kI_sI, if_neg (by omega)]; exact k9
      · intro l hl
        rw [kI_sI, if_neg (by omega), kI_sI, if_pos rfl]
        by_cases e : l = k + 1
        · subst e; rw [upd_at]
        · rw [upd_ne _ _ e]; exact K1 l (by omega)
      · intro l h1 hl
        rw [kI_sI, if_pos rfl, kI_sI, if_neg (by omega)]
        by_cases e : l = k + 1 + 1
        · subst e; rw [upd_at]
        · rw [upd_ne _ _ e]; exact K2 l h1 (by omega)
  have f1 : FX [55, 56, 57] [] [(55, 1)] h (sI (sI (sI (sI (sR h 55 1 g) 55 8 (nI 0)) 55 9 (nI 0)) 56 0 (nI 1)) 57 1 (nI 0)) := FX_sI (FX_sI (FX_sI (FX_sI (FX_sR (FX_rf _ _ _ _) (by simp)) (by simp)) (by simp)) (by simp)) (by simp)
  have k1 : kR (sI (sI (sI (sI (sR h 55 1 g) 55 8 (nI 0)) 55 9 (nI 0)) 56 0 (nI 1)) 57 1 (nI 0)) 55 1 = g := by
    rw [kR_sI, kR_sI, kR_sI, kR_sI, kR_sR, if_pos rfl]
    rfl
  have k8 : kI (sI (sI (sI (sI (sR h 55 1 g) 55 8 (nI 0)) 55 9 (nI 0)) 56 0 (nI 1)) 57 1 (nI 0)) 55 8 = nI 0 := by
    rw [kI_sI, if_neg (by omega), kI_sI, if_neg (by omega), kI_sI, if_pos rfl, upd_ne _ _ (by omega), kI_sI, if_pos rfl, upd_at]
  have k9 : kI (sI (sI (sI (sI (sR h 55 1 g) 55 8 (nI 0)) 55 9 (nI 0)) 56 0 (nI 1)) 57 1 (nI 0)) 55 9 = nI 0 := by
    rw [kI_sI, if_neg (by omega), kI_sI, if_neg (by omega), kI_sI, if_pos rfl, upd_at]
  have k56 : kI (sI (sI (sI (sI (sR h 55 1 g) 55 8 (nI 0)) 55 9 (nI 0)) 56 0 (nI 1)) 57 1 (nI 0)) 56 0 = nI 1 := by
    rw [kI_sI, if_neg (by omega), kI_sI, if_pos rfl, upd_at]
  have k57 : kI (sI (sI (sI (sI (sR h 55 1 g) 55 8 (nI 0)) 55 9 (nI 0)) 56 0 (nI 1)) 57 1 (nI 0)) 57 1 = nI 0 := by
    rw [kI_sI, if_pos rfl, upd_at]
  have u2 : va_up (kR h 55) 1 g 2 = 56 := by
    show (if 2 = 1 then g else kR h 55 2) = 56
    rw [if_neg (by omega)]; exact wR_55_2 w
  have u3 : va_up (kR h 55) 1 g 3 = 57 := by
    show (if 3 = 1 then g else kR h 55 3) = 57
    rw [if_neg (by omega)]; exact wR_55_3 w
  refine sX6_begin _ _ ?_
  refine eX6_begin_0 ?_
  simp only [ks_nop, ks_aload_0, ks_aload_1, ks_iload_2, ks_istore_2, ks_iconst, ks_bipush, ks_iinc, ks_iadd, ks_isub, ks_imul, ks_icmp_gt, ks_goto, ks_get0, ks_get3, ks_get1, ks_get2, ks_put0, ks_put1, ks_put2, ks_put3, ks_iald, ks_sld, ks_iast, ks_inv0, ks_inv1, ks_inv2, ks_inv4, ks_inv3, ks_inv5, ks_inv6, ks_inv7, ks_inv8, ks_vret, kldi_0, kldl_0, klda_0, kldz_0, kst1_0, kst2_0, kldi_1, kldl_1, klda_1, kldz_1, kst1_1n, kst2_1n, kst1_1i, kst2_1i, kst1_1r, kst2_1r, kst1_1z, kst2_1z, kst1_1l, kst2_1l, kldi_2, kldl_2, klda_2, kldz_2, kst1_2n, kst2_2n, kst1_2i, kst2_2i, kst1_2r, kst2_2r, kst1_2z, kst2_2z, kst1_2l, kst2_2l, kpr_r, kcat_n, kcat_i, kcat_r, kcat_z, kcat_l, kargs_0, kargs_s, kret_v, kret_n, kret_x, zl_6, zl_7, jX6_begin_0, bX6_begin_0, jX6_begin_31, bX6_begin_31, jX6_begin_86, bX6_begin_86, Nat.reduceAdd, Nat.reduceLeDiff, Nat.reduceEqDiff, Nat.reduceSub, Nat.zero_le, Nat.add_left_cancel_iff, true_and, and_true, if_true, if_false, reduceIte, ne_eq, not_false_eq_true, Nat.add_eq_left, Nat.left_eq_add, kK_sR, kR_sR, kR_sI, kK_sI, wK_55 w, wR_55_0 w, wR_55_2 w, wR_55_3 w, wK_56 w, wK_57 w, g0, u2, u3]
  try simp (disch := omega) only [a_0, a_1, a_L0, a_L1, a_lt, a_le, a_eq, a_sub, a_addn, nI_add, pk_mul, a_in, nI_clamp, a_eqn, a_eqn', a_eqn2, a_n12, eq_self, a_ltn, a_ltn', a_len, a_len', a_shl1, z_shr, fa_and, fa_or, a_tb, a_tb0, a_b0, a_b1, a_bi, a_lc0, a_lcle, a_lcge, a_lclt, a_lcgt, upd_at, upd_ne, updL_at, updL_ne, Nat.reduceAdd, Nat.reduceSub, Nat.reduceMul, Nat.reduceLT, Nat.reduceLeDiff, Nat.reduceEqDiff, true_and, and_true, if_true, if_false, reduceIte, ne_eq, not_false_eq_true, not_true_eq_false, true_implies, false_implies, Nat.not_lt, Nat.not_le, Nat.le_refl, Nat.add_sub_cancel, Nat.lt_irrefl, Nat.not_lt_zero, Nat.zero_le, Nat.testBit_shiftRight, Nat.add_zero, reduceCtorEq, true_or, or_true, or_false, false_or, Bool.true_eq_false, Bool.false_eq_true, Bool.not_eq_false, Bool.not_eq_true, Decidable.not_not]
  have sk : kC (sI (sI (sI (sI (sR h 55 1 g) 55 8 (nI 0)) 55 9 (nI 0)) 56 0 (nI 1)) 57 1 (nI 0)) = kC h ∧ kS (sI (sI (sI (sI (sR h 55 1 g) 55 8 (nI 0)) 55 9 (nI 0)) 56 0 (nI 1)) 57 1 (nI 0)) = kS h := ⟨rfl, rfl⟩
  generalize sI (sI (sI (sI (sR h 55 1 g) 55 8 (nI 0)) 55 9 (nI 0)) 56 0 (nI 1)) 57 1 (nI 0) = h1 at *
  refine loop 0 (by omega) h1 f1 sk k1 k8 k9 (fun l hl => ?_) (fun l q1 q2 => ?_)
  · have : l = 0 := by omega
    subst this; rw [Nat.pow_zero]; exact k56
  · have : l = 1 := by omega
    subst this; exact k57
end SW

/-! what is said -/
def ldT (x : Nat) (acc : List Nat) : List Nat := if acc = [] then [65 + x, 62] else acc ++ [124]
noncomputable def sgT (B : GB) (P : List (List Nat)) (C : CL) (x : Nat) : Nat → List Nat
  | 0 => []
  | s + 1 => if (sg4 B P C x).testBit s = true then ldT x (sgT B P C x s) ++ [97 + s] else sgT B P C x s
noncomputable def twZ (B : GB) (P : List (List Nat)) (C : CL) (la x y : Nat) (acc : List Nat) : Nat → List Nat
  | 0 => acc
  | z + 1 => if (sec B P C x y &&& la).testBit z = true then ldT x (twZ B P C la x y acc z) ++ [65 + y, 65 + z] else twZ B P C la x y acc z
noncomputable def twY (B : GB) (P : List (List Nat)) (C : CL) (la x : Nat) : Nat → List Nat
  | 0 => sgT B P C x 4
  | y + 1 => if la.testBit y = true then twZ B P C la x y (twY B P C la x y) 12 else twY B P C la x y
noncomputable def xTx (B : GB) (P : List (List Nat)) (C : CL) (la x : Nat) : List Nat := if twY B P C la x 12 = [] then [] else twY B P C la x 12 ++ [59]
noncomputable def alT (B : GB) (P : List (List Nat)) (C : CL) (la : Nat) : Nat → List Nat
  | 0 => []
  | x + 1 => if la.testBit x = true then alT B P C la x ++ xTx B P C la x else alT B P C la x
def b128 (l : List Nat) : Prop := ∀ v ∈ l, v < 128
theorem b128_app {a b : List Nat} (ha : b128 a) (hb : b128 b) : b128 (a ++ b) := fun v hv => (List.mem_append.mp hv).elim (ha v) (hb v)
section TH
variable {B : GB} {P : List (List Nat)} {C : CL}
theorem ldT_len (x : Nat) (acc : List Nat) {k : Nat} (h : acc.length ≤ 2 + k) : (ldT x acc).length ≤ 2 + k + 1 := by
  unfold ldT
  split
  · simp; omega
  · simp; omega
theorem ldT_ne (x : Nat) (acc : List Nat) : ldT x acc ≠ [] := by
  unfold ldT
  split <;> simp
theorem ldT_b {x : Nat} (hx : x < 12) {acc : List Nat} (h : b128 acc) : b128 (ldT x acc) := by
  unfold ldT
  split
  · intro v hv
    simp at hv
    omega
  · refine b128_app h (fun v hv => ?_)
    simp at hv
    omega
theorem sgT_ok {x : Nat} (hx : x < 12) : ∀ s, s ≤ 4 → (sgT B P C x s).length ≤ 2 + s * 2 ∧ b128 (sgT B P C x s)
  | 0, _ => ⟨by simp [sgT], fun v hv => by simp [sgT] at hv⟩
  | s + 1, hs => by
    have ih := sgT_ok hx s (by omega)
    rw [sgT]
    split
    · refine ⟨?_, b128_app (ldT_b hx ih.2) (fun v hv => ?_)⟩
      · have := ldT_len x _ ih.1
        simp; omega
      · simp at hv
        omega
    · exact ⟨by omega, ih.2⟩
theorem twZ_ok {la x y : Nat} (hx : x < 12) (hy : y < 12) {acc : List Nat} {k : Nat} (h1 : acc.length ≤ 2 + k) (h2 : b128 acc) : ∀ z, z ≤ 12 → (twZ B P C la x y acc z).length ≤ 2 + k + z * 3 ∧ b128 (twZ B P C la x y acc z)
  | 0, _ => ⟨by simp [twZ]; omega, h2⟩
  | z + 1, hz => by
    have ih := twZ_ok (la := la) hx hy h1 h2 z (by omega)
    rw [twZ]
    split
    · refine ⟨?_, b128_app (ldT_b hx ih.2) (fun v hv => ?_)⟩
      · have := ldT_len x (twZ B P C la x y acc z) (k := k + z * 3) (by omega)
        simp; omega
      · simp at hv
        omega
    · exact ⟨by omega, ih.2⟩
theorem twY_ok {la x : Nat} (hx : x < 12) : ∀ y, y ≤ 12 → (twY B P C la x y).length ≤ 2 + (8 + y * 36) ∧ b128 (twY B P C la x y)
  | 0, _ => by
    have := sgT_ok (B := B) (P := P) (C := C) hx 4 (by omega)
    rw [twY]
    exact ⟨by omega, this.2⟩
  | y + 1, hy => by
    have ih := twY_ok (la := la) hx y (by omega)
    rw [twY]
    split
    · have := twZ_ok (B := B) (P := P) (C := C) (la := la) hx (show y < 12 by omega) ih.1 ih.2 12 (by omega)
      exact ⟨by omega, this.2⟩
    · exact ⟨by omega, ih.2⟩
theorem xTx_ok {la x : Nat} (hx : x < 12) : (xTx B P C la x).length ≤ 443 ∧ b128 (xTx B P C la x) := by
  have := twY_ok (B := B) (P := P) (C := C) (la := la) hx 12 (by omega)
  unfold xTx
  split
  · exact ⟨by simp, fun v hv => by simp at hv⟩
  · refine ⟨by simp; omega, b128_app this.2 (fun v hv => ?_)⟩
    simp at hv
    omega
theorem alT_ok {la : Nat} : ∀ x, x ≤ 12 → (alT B P C la x).length ≤ x * 443 ∧ b128 (alT B P C la x)
  | 0, _ => ⟨by simp [alT], fun v hv => by simp [alT] at hv⟩
  | x + 1, hx => by
    have ih := alT_ok (la := la) x (by omega)
    have xo := xTx_ok (B := B) (P := P) (C := C) (la := la) (show x < 12 by omega)
    rw [alT]
    split
    · exact ⟨by simp; omega, b128_app ih.2 xo.2⟩
    · exact ⟨by omega, ih.2⟩
theorem twZ_sk {la x y : Nat} {acc : List Nat} {a b : Nat} (hab : a ≤ b) (h : ∀ i, a ≤ i → i < b → (sec B P C x y &&& la).testBit i = false) : twZ B P C la x y acc b = twZ B P C la x y acc a := by
  induction b with
  | zero => rw [show a = 0 by omega]
  | succ b ih =>
    by_cases e : a = b + 1
    · rw [e]
    · rw [twZ, h b (by omega) (by omega)]
      exact ih (by omega) (fun i h1 h2 => h i h1 (by omega))
theorem twY_sk {la x a b : Nat} (hab : a ≤ b) (h : ∀ i, a ≤ i → i < b → la.testBit i = false) : twY B P C la x b = twY B P C la x a := by
  induction b with
  | zero => rw [show a = 0 by omega]
  | succ b ih =>
    by_cases e : a = b + 1
    · rw [e]
    · rw [twY, h b (by omega) (by omega)]
      exact ih (by omega) (fun i h1 h2 => h i h1 (by omega))
end TH
/-- while it is being written -/
def SPw (h : KH) (s : Nat) (l : List Nat) : Prop := kR h 64 0 = s ∧ kK h s = (3, 5316) ∧ isD s ∧ kI h 64 1 = nI l.length ∧ ∀ i, i < l.length → kI h s i = nI (l.getD i 0)
section CS7
variable {r : Nat} {h : KH} {Q : KO → KH → Prop} {B : GB} {P : List (List Nat)} {C : CL} {s : Nat} {l : List Nat}
theorem nar8 {v : Nat} (hv : v < 128) : (nI v).toInt8.toInt32 = nI v ∧ vp_nar .byte (nI v) = nI v := by
  have : ∀ v, v < 128 → (nI v).toInt8.toInt32 = nI v ∧ vp_nar .byte (nI v) = nI v := by decide
  exact this v hv
theorem c_X7put {v : Nat} (w : kW h) (K : SPw h s l) (hl : l.length < 5316) (hv : v < 128) (H : ∀ h', Fr [64, s] [] h h' → SPw h' s (l ++ [v]) → Q (.inl none) h') : kCalls r yX7_put [.ref 64, .int (nI v)] h Q := by
  obtain ⟨k1, k2, k3, k4, k5⟩ := K
  have s0 := isD_0 k3
  have n8 := nar8 hv
  have d64 : ¬ 64 = s := by unfold isD at k3; omega
  have e33 : ∀ h', Fr [64, s] [] h h' → SPw h' s (l ++ [v]) → kRun r mX7_put 33 [some (.ref 64), some (.int (nI v))] [] h' Q := by
    intro h' f q
    refine eX7_put_33 ?_
    simp only [ks_nop, ks_aload_0, ks_iload_1, ks_iconst, ks_iadd, ks_i2b, ks_dup_i, ks_dup_r, ks_icmp_ge, ks_get0, ks_get3, ks_get1, ks_get2, ks_put0, ks_put1, ks_put2, ks_put3, ks_bast, ks_alen, ks_slen, ks_vret, kldi_0, kldl_0, klda_0, kldz_0, kst1_0, kst2_0, kldi_1, kldl_1, klda_1, kldz_1, kst1_1n, kst2_1n, kst1_1i, kst2_1i, kst1_1r, kst2_1r, kst1_1z, kst2_1z, kst1_1l, kst2_1l, kcat_n, kcat_i, kcat_r, kcat_z, kcat_l, jX7_put_0, bX7_put_0, jX7_put_33, bX7_put_33, Nat.reduceAdd, Nat.reduceLeDiff, Nat.reduceEqDiff, Nat.reduceSub, Nat.zero_le, Nat.add_left_cancel_iff, true_and, and_true, if_true, if_false, reduceIte, ne_eq, not_false_eq_true, Nat.add_eq_left, Nat.left_eq_add, kI_sI, kL_sI, kR_sI, kK_sI, kI_sL, kL_sL, kR_sL, kK_sL, kI_sIA, kL_sIA, kR_sIA, kK_sIA, kI_sLA, kL_sLA, kR_sLA, kK_sLA]
    try simp (disch := omega) only [a_0, a_1, a_L0, a_L1, a_lt, a_le, a_eq, a_sub, a_addn, nI_add, pk_mul, a_in, nI_clamp, a_eqn, a_eqn', a_eqn2, a_n12, eq_self, a_ltn, a_ltn', a_len, a_len', a_shl1, z_shr, fa_and, fa_or, a_tb, a_tb0, a_b0, a_b1, a_bi, a_lc0, a_lcle, a_lcge, a_lclt, a_lcgt, upd_at, upd_ne, updL_at, updL_ne, Nat.reduceAdd, Nat.reduceSub, Nat.reduceMul, Nat.reduceLT, Nat.reduceLeDiff, Nat.reduceEqDiff, true_and, and_true, if_true, if_false, reduceIte, ne_eq, not_false_eq_true, not_true_eq_false, true_implies, false_implies, Nat.not_lt, Nat.not_le, Nat.le_refl, Nat.add_sub_cancel, Nat.lt_irrefl, Nat.not_lt_zero, Nat.zero_le, Nat.testBit_shiftRight, Nat.add_zero, reduceCtorEq, true_or, or_true, or_false, false_or, Bool.true_eq_false, Bool.false_eq_true, Bool.not_eq_false, Bool.not_eq_true, Decidable.not_not]
    repeat (first | refine ⟨fun _ => ?_, fun c => absurd c (by omega)⟩ | refine ⟨fun c => absurd c (by omega), fun _ => ?_⟩)
    exact H h' f q
  refine sX7_put _ _ ?_
  refine eX7_put_0 ?_
  simp only [ks_nop, ks_aload_0, ks_iload_1, ks_iconst, ks_iadd, ks_i2b, ks_dup_i, ks_dup_r, ks_icmp_ge, ks_get0, ks_get3, ks_get1, ks_get2, ks_put0, ks_put1, ks_put2, ks_put3, ks_bast, ks_alen, ks_slen, ks_vret, kldi_0, kldl_0, klda_0, kldz_0, kst1_0, kst2_0, kldi_1, kldl_1, klda_1, kldz_1, kst1_1n, kst2_1n, kst1_1i, kst2_1i, kst1_1r, kst2_1r, kst1_1z, kst2_1z, kst1_1l, kst2_1l, kcat_n, kcat_i, kcat_r, kcat_z, kcat_l, jX7_put_0, bX7_put_0, jX7_put_33, bX7_put_33, Nat.reduceAdd, Nat.reduceLeDiff, Nat.reduceEqDiff, Nat.reduceSub, Nat.zero_le, Nat.add_left_cancel_iff, true_and, and_true, if_true, if_false, reduceIte, ne_eq, not_false_eq_true, Nat.add_eq_left, Nat.left_eq_add, kI_sI, kL_sI, kR_sI, kK_sI, kI_sL, kL_sL, kR_sL, kK_sL, kI_sIA, kL_sIA, kR_sIA, kK_sIA, kI_sLA, kL_sLA, kR_sLA, kK_sLA, wK_64 w, k1, s0, k2, k4]
  try simp (disch := omega) only [a_0, a_1, a_L0, a_L1, a_lt, a_le, a_eq, a_sub, a_addn, nI_add, pk_mul, a_in, nI_clamp, a_eqn, a_eqn', a_eqn2, a_n12, eq_self, a_ltn, a_ltn', a_len, a_len', a_shl1, z_shr, fa_and, fa_or, a_tb, a_tb0, a_b0, a_b1, a_bi, a_lc0, a_lcle, a_lcge, a_lclt, a_lcgt, upd_at, upd_ne, updL_at, updL_ne, Nat.reduceAdd, Nat.reduceSub, Nat.reduceMul, Nat.reduceLT, Nat.reduceLeDiff, Nat.reduceEqDiff, true_and, and_true, if_true, if_false, reduceIte, ne_eq, not_false_eq_true, not_true_eq_false, true_implies, false_implies, Nat.not_lt, Nat.not_le, Nat.le_refl, Nat.add_sub_cancel, Nat.lt_irrefl, Nat.not_lt_zero, Nat.zero_le, Nat.testBit_shiftRight, Nat.add_zero, reduceCtorEq, true_or, or_true, or_false, false_or, Bool.true_eq_false, Bool.false_eq_true, Bool.not_eq_false, Bool.not_eq_true, Decidable.not_not, k4, or_false, false_and]
  simp only [n8.1, n8.2, kI_sI, d64, if_false, k4, wK_64 w, true_and, nI_add]
  try simp (disch := omega) only [a_0, a_1, a_L0, a_L1, a_lt, a_le, a_eq, a_sub, a_addn, nI_add, pk_mul, a_in, nI_clamp, a_eqn, a_eqn', a_eqn2, a_n12, eq_self, a_ltn, a_ltn', a_len, a_len', a_shl1, z_shr, fa_and, fa_or, a_tb, a_tb0, a_b0, a_b1, a_bi, a_lc0, a_lcle, a_lcge, a_lclt, a_lcgt, upd_at, upd_ne, updL_at, updL_ne, Nat.reduceAdd, Nat.reduceSub, Nat.reduceMul, Nat.reduceLT, Nat.reduceLeDiff, Nat.reduceEqDiff, true_and, and_true, if_true, if_false, reduceIte, ne_eq, not_false_eq_true, not_true_eq_false, true_implies, false_implies, Nat.not_lt, Nat.not_le, Nat.le_refl, Nat.add_sub_cancel, Nat.lt_irrefl, Nat.not_lt_zero, Nat.zero_le, Nat.testBit_shiftRight, Nat.add_zero, reduceCtorEq, true_or, or_true, or_false, false_or, Bool.true_eq_false, Bool.false_eq_true, Bool.not_eq_false, Bool.not_eq_true, Decidable.not_not]
  repeat (first | refine ⟨fun _ => ?_, fun c => absurd c (by omega)⟩ | refine ⟨fun c => absurd c (by omega), fun _ => ?_⟩)
  refine e33 (sI (sI h s l.length (nI v)) 64 1 (nI (l.length + 1))) (Fr_sI (Fr_sI (Fr_rf _ _ _) (by simp)) (by simp)) ⟨k1, k2, k3, ?_, fun i hi => ?_⟩
  · rw [kI_q, if_pos rfl]; simp
  · rw [kI_sI, if_neg (Ne.symm d64), kI_sI, if_pos rfl]
    simp at hi
    by_cases e : i = l.length
    · subst e; rw [upd_at, getD_r]
    · rw [upd_ne _ _ e, getD_l (by omega)]; exact k5 i (by omega)
theorem c_X7lead {pre acc : List Nat} {x : Nat} (hr : 2 ≤ r) (w : kW h) (K : SPw h s (pre ++ acc)) (hl : (pre ++ acc).length + 1 < 5316) (hx : x < 12) (H : ∀ h', Fr [64, s] [] h h' → SPw h' s (pre ++ ldT x acc) → Q (.inl none) h') : kCalls r yX7_lead [.ref 64, .int (nI pre.length), .int (nI x)] h Q := by
  have la : (pre ++ acc).length = pre.length + acc.length := List.length_append
  have e31 : ∀ h', Q (.inl none) h' → kRun r mX7_lead 31 [some (.ref 64), some (.int (nI pre.length)), some (.int (nI x))] [] h' Q := by
    intro h' q
    refine eX7_lead_31 ?_
    simp only [ks_nop, ks_aload_0, ks_iload_1, ks_iload_2, ks_bipush, ks_iadd, ks_icmp_ne, ks_goto, ks_get0, ks_get3, ks_get1, ks_get2, ks_inv0, ks_inv1, ks_inv2, ks_inv4, ks_inv3, ks_inv5, ks_inv6, ks_inv7, ks_inv8, ks_vret, kldi_0, kldl_0, klda_0, kldz_0, kst1_0, kst2_0, kldi_1, kldl_1, klda_1, kldz_1, kst1_1n, kst2_1n, kst1_1i, kst2_1i, kst1_1r, kst2_1r, kst1_1z, kst2_1z, kst1_1l, kst2_1l, kldi_2, kldl_2, klda_2, kldz_2, kst1_2n, kst2_2n, kst1_2i, kst2_2i, kst1_2r, kst2_2r, kst1_2z, kst2_2z, kst1_2l, kst2_2l, kpr_r, kcat_n, kcat_i, kcat_r, kcat_z, kcat_l, kargs_0, kargs_s, kret_v, kret_n, kret_x, zl_62, zl_65, zl_124, jX7_lead_0, bX7_lead_0, jX7_lead_25, bX7_lead_25, jX7_lead_31, bX7_lead_31, Nat.reduceAdd, Nat.reduceLeDiff, Nat.reduceEqDiff, Nat.reduceSub, Nat.zero_le, Nat.add_left_cancel_iff, true_and, and_true, if_true, if_false, reduceIte, ne_eq, not_false_eq_true, Nat.add_eq_left, Nat.left_eq_add, kI_sI, kL_sI, kR_sI, kK_sI, kI_sL, kL_sL, kR_sL, kK_sL, kI_sIA, kL_sIA, kR_sIA, kK_sIA, kI_sLA, kL_sLA, kR_sLA, kK_sLA]
    try simp (disch := omega) only [a_0, a_1, a_L0, a_L1, a_lt, a_le, a_eq, a_sub, a_addn, nI_add, pk_mul, a_in, nI_clamp, a_eqn, a_eqn', a_eqn2, a_n12, eq_self, a_ltn, a_ltn', a_len, a_len', a_shl1, z_shr, fa_and, fa_or, a_tb, a_tb0, a_b0, a_b1, a_bi, a_lc0, a_lcle, a_lcge, a_lclt, a_lcgt, upd_at, upd_ne, updL_at, updL_ne, Nat.reduceAdd, Nat.reduceSub, Nat.reduceMul, Nat.reduceLT, Nat.reduceLeDiff, Nat.reduceEqDiff, true_and, and_true, if_true, if_false, reduceIte, ne_eq, not_false_eq_true, not_true_eq_false, true_implies, false_implies, Nat.not_lt, Nat.not_le, Nat.le_refl, Nat.add_sub_cancel, Nat.lt_irrefl, Nat.not_lt_zero, Nat.zero_le, Nat.testBit_shiftRight, Nat.add_zero, reduceCtorEq, true_or, or_true, or_false, false_or, Bool.true_eq_false, Bool.false_eq_true, Bool.not_eq_false, Bool.not_eq_true, Decidable.not_not]
    repeat (first | refine ⟨fun _ => ?_, fun c => absurd c (by omega)⟩ | refine ⟨fun c => absurd c (by omega), fun _ => ?_⟩)
    exact q
  have k4 := K.2.2.2.1
  rw [la] at k4 hl
  by_cases e : acc = []
  · subst e
    rw [List.append_nil] at K
    refine sX7_lead _ _ _ ?_
    refine eX7_lead_0 ?_
    simp only [ks_nop, ks_aload_0, ks_iload_1, ks_iload_2, ks_bipush, ks_iadd, ks_icmp_ne, ks_goto, ks_get0, ks_get3, ks_get1, ks_get2, ks_inv0, ks_inv1, ks_inv2, ks_inv4, ks_inv3, ks_inv5, ks_inv6, ks_inv7, ks_inv8, ks_vret, kldi_0, kldl_0, klda_0, kldz_0, kst1_0, kst2_0, kldi_1, kldl_1, klda_1, kldz_1, kst1_1n, kst2_1n, kst1_1i, kst2_1i, kst1_1r, kst2_1r, kst1_1z, kst2_1z, kst1_1l, kst2_1l, kldi_2, kldl_2, klda_2, kldz_2, kst1_2n, kst2_2n, kst1_2i, kst2_2i, kst1_2r, kst2_2r, kst1_2z, kst2_2z, kst1_2l, kst2_2l, kpr_r, kcat_n, kcat_i, kcat_r, kcat_z, kcat_l, kargs_0, kargs_s, kret_v, kret_n, kret_x, zl_62, zl_65, zl_124, jX7_lead_0, bX7_lead_0, jX7_lead_25, bX7_lead_25, jX7_lead_31, bX7_lead_31, Nat.reduceAdd, Nat.reduceLeDiff, Nat.reduceEqDiff, Nat.reduceSub, Nat.zero_le, Nat.add_left_cancel_iff, true_and, and_true, if_true, if_false, reduceIte, ne_eq, not_false_eq_true, Nat.add_eq_left, Nat.left_eq_add, kI_sI, kL_sI, kR_sI, kK_sI, kI_sL, kL_sL, kR_sL, kK_sL, kI_sIA, kL_sIA, kR_sIA, kK_sIA, kI_sLA, kL_sLA, kR_sLA, kK_sLA, wK_64 w, k4, hr, List.length_nil, Nat.add_zero]
    try simp (disch := omega) only [a_0, a_1, a_L0, a_L1, a_lt, a_le, a_eq, a_sub, a_addn, nI_add, pk_mul, a_in, nI_clamp, a_eqn, a_eqn', a_eqn2, a_n12, eq_self, a_ltn, a_ltn', a_len, a_len', a_shl1, z_shr, fa_and, fa_or, a_tb, a_tb0, a_b0, a_b1, a_bi, a_lc0, a_lcle, a_lcge, a_lclt, a_lcgt, upd_at, upd_ne, updL_at, updL_ne, Nat.reduceAdd, Nat.reduceSub, Nat.reduceMul, Nat.reduceLT, Nat.reduceLeDiff, Nat.reduceEqDiff, true_and, and_true, if_true, if_false, reduceIte, ne_eq, not_false_eq_true, not_true_eq_false, true_implies, false_implies, Nat.not_lt, Nat.not_le, Nat.le_refl, Nat.add_sub_cancel, Nat.lt_irrefl, Nat.not_lt_zero, Nat.zero_le, Nat.testBit_shiftRight, Nat.add_zero, reduceCtorEq, true_or, or_true, or_false, false_or, Bool.true_eq_false, Bool.false_eq_true, Bool.not_eq_false, Bool.not_eq_true, Decidable.not_not]
    repeat (first | refine ⟨fun _ => ?_, fun c => absurd c (by omega)⟩ | refine ⟨fun c => absurd c (by omega), fun _ => ?_⟩)
    have c1 : kCalls (r - 1) yX7_put [.ref 64, .int (nI (65 + x))] h (fun o h' => o = .inl none ∧ Fr [64, s] [] h h' ∧ SPw h' s (pre ++ [65 + x])) := c_X7put w K (by simp at hl; omega) (by omega) (fun h' f q => ⟨rfl, f, q⟩)
    refine c_X7put w K (by simp at hl; omega) (by omega) (fun h1 f1 K1 => ?_)
    have w1 := Fr_W f1 w
    simp only [ks_nop, ks_aload_0, ks_iload_1, ks_iload_2, ks_bipush, ks_iadd, ks_icmp_ne, ks_goto, ks_get0, ks_get3, ks_get1, ks_get2, ks_inv0, ks_inv1, ks_inv2, ks_inv4, ks_inv3, ks_inv5, ks_inv6, ks_inv7, ks_inv8, ks_vret, kldi_0, kldl_0, klda_0, kldz_0, kst1_0, kst2_0, kldi_1, kldl_1, klda_1, kldz_1, kst1_1n, kst2_1n, kst1_1i, kst2_1i, kst1_1r, kst2_1r, kst1_1z, kst2_1z, kst1_1l, kst2_1l, kldi_2, kldl_2, klda_2, kldz_2, kst1_2n, kst2_2n, kst1_2i, kst2_2i, kst1_2r, kst2_2r, kst1_2z, kst2_2z, kst1_2l, kst2_2l, kpr_r, kcat_n, kcat_i, kcat_r, kcat_z, kcat_l, kargs_0, kargs_s, kret_v, kret_n, kret_x, zl_62, zl_65, zl_124, jX7_lead_0, bX7_lead_0, jX7_lead_25, bX7_lead_25, jX7_lead_31, bX7_lead_31, Nat.reduceAdd, Nat.reduceLeDiff, Nat.reduceEqDiff, Nat.reduceSub, Nat.zero_le, Nat.add_left_cancel_iff, true_and, and_true, if_true, if_false, reduceIte, ne_eq, not_false_eq_true, Nat.add_eq_left, Nat.left_eq_add, kI_sI, kL_sI, kR_sI, kK_sI, kI_sL, kL_sL, kR_sL, kK_sL, kI_sIA, kL_sIA, kR_sIA, kK_sIA, kI_sLA, kL_sLA, kR_sLA, kK_sLA, wK_64 w1, hr]
    try simp (disch := omega) only [a_0, a_1, a_L0, a_L1, a_lt, a_le, a_eq, a_sub, a_addn, nI_add, pk_mul, a_in, nI_clamp, a_eqn, a_eqn', a_eqn2, a_n12, eq_self, a_ltn, a_ltn', a_len, a_len', a_shl1, z_shr, fa_and, fa_or, a_tb, a_tb0, a_b0, a_b1, a_bi, a_lc0, a_lcle, a_lcge, a_lclt, a_lcgt, upd_at, upd_ne, updL_at, updL_ne, Nat.reduceAdd, Nat.reduceSub, Nat.reduceMul, Nat.reduceLT, Nat.reduceLeDiff, Nat.reduceEqDiff, true_and, and_true, if_true, if_false, reduceIte, ne_eq, not_false_eq_true, not_true_eq_false, true_implies, false_implies, Nat.not_lt, Nat.not_le, Nat.le_refl, Nat.add_sub_cancel, Nat.lt_irrefl, Nat.not_lt_zero, Nat.zero_le, Nat.testBit_shiftRight, Nat.add_zero, reduceCtorEq, true_or, or_true, or_false, false_or, Bool.true_eq_false, Bool.false_eq_true, Bool.not_eq_false, Bool.not_eq_true, Decidable.not_not, wK_64 w1, hr]
    repeat (first | refine ⟨fun _ => ?_, fun c => absurd c (by omega)⟩ | refine ⟨fun c => absurd c (by omega), fun _ => ?_⟩)
    refine c_X7put (v := 62) w1 K1 (by simp at hl ⊢; omega) (by omega) (fun h2 f2 K2 => ?_)
    simp only [ks_nop, ks_aload_0, ks_iload_1, ks_iload_2, ks_bipush, ks_iadd, ks_icmp_ne, ks_goto, ks_get0, ks_get3, ks_get1, ks_get2, ks_inv0, ks_inv1, ks_inv2, ks_inv4, ks_inv3, ks_inv5, ks_inv6, ks_inv7, ks_inv8, ks_vret, kldi_0, kldl_0, klda_0, kldz_0, kst1_0, kst2_0, kldi_1, kldl_1, klda_1, kldz_1, kst1_1n, kst2_1n, kst1_1i, kst2_1i, kst1_1r, kst2_1r, kst1_1z, kst2_1z, kst1_1l, kst2_1l, kldi_2, kldl_2, klda_2, kldz_2, kst1_2n, kst2_2n, kst1_2i, kst2_2i, kst1_2r, kst2_2r, kst1_2z, kst2_2z, kst1_2l, kst2_2l, kpr_r, kcat_n, kcat_i, kcat_r, kcat_z, kcat_l, kargs_0, kargs_s, kret_v, kret_n, kret_x, zl_62, zl_65, zl_124, jX7_lead_0, bX7_lead_0, jX7_lead_25, bX7_lead_25, jX7_lead_31, bX7_lead_31, Nat.reduceAdd, Nat.reduceLeDiff, Nat.reduceEqDiff, Nat.reduceSub, Nat.zero_le, Nat.add_left_cancel_iff, true_and, and_true, if_true, if_false, reduceIte, ne_eq, not_false_eq_true, Nat.add_eq_left, Nat.left_eq_add, kI_sI, kL_sI, kR_sI, kK_sI, kI_sL, kL_sL, kR_sL, kK_sL, kI_sIA, kL_sIA, kR_sIA, kK_sIA, kI_sLA, kL_sLA, kR_sLA, kK_sLA]
    try simp (disch := omega) only [a_0, a_1, a_L0, a_L1, a_lt, a_le, a_eq, a_sub, a_addn, nI_add, pk_mul, a_in, nI_clamp, a_eqn, a_eqn', a_eqn2, a_n12, eq_self, a_ltn, a_ltn', a_len, a_len', a_shl1, z_shr, fa_and, fa_or, a_tb, a_tb0, a_b0, a_b1, a_bi, a_lc0, a_lcle, a_lcge, a_lclt, a_lcgt, upd_at, upd_ne, updL_at, updL_ne, Nat.reduceAdd, Nat.reduceSub, Nat.reduceMul, Nat.reduceLT, Nat.reduceLeDiff, Nat.reduceEqDiff, true_and, and_true, if_true, if_false, reduceIte, ne_eq, not_false_eq_true, not_true_eq_false, true_implies, false_implies, Nat.not_lt, Nat.not_le, Nat.le_refl, Nat.add_sub_cancel, Nat.lt_irrefl, Nat.not_lt_zero, Nat.zero_le, Nat.testBit_shiftRight, Nat.add_zero, reduceCtorEq, true_or, or_true, or_false, false_or, Bool.true_eq_false, Bool.false_eq_true, Bool.not_eq_false, Bool.not_eq_true, Decidable.not_not]
    repeat (first | refine ⟨fun _ => ?_, fun c => absurd c (by omega)⟩ | refine ⟨fun c => absurd c (by omega), fun _ => ?_⟩)
    refine e31 h2 (H h2 (Fr_tr f1 f2 (by simp) (by simp)) ?_)
    unfold ldT
    rw [if_pos rfl]
    rw [List.append_assoc] at K2
    exact K2
  · have : 0 < acc.length := by
      rcases Nat.eq_zero_or_pos acc.length with q | q
      · exact absurd (List.length_eq_zero_iff.mp q) e
      · exact q
    refine sX7_lead _ _ _ ?_
    refine eX7_lead_0 ?_
    simp only [ks_nop, ks_aload_0, ks_iload_1, ks_iload_2, ks_bipush, ks_iadd, ks_icmp_ne, ks_goto, ks_get0, ks_get3, ks_get1, ks_get2, ks_inv0, ks_inv1, ks_inv2, ks_inv4, ks_inv3, ks_inv5, ks_inv6, ks_inv7, ks_inv8, ks_vret, kldi_0, kldl_0, klda_0, kldz_0, kst1_0, kst2_0, kldi_1, kldl_1, klda_1, kldz_1, kst1_1n, kst2_1n, kst1_1i, kst2_1i, kst1_1r, kst2_1r, kst1_1z, kst2_1z, kst1_1l, kst2_1l, kldi_2, kldl_2, klda_2, kldz_2, kst1_2n, kst2_2n, kst1_2i, kst2_2i, kst1_2r, kst2_2r, kst1_2z, kst2_2z, kst1_2l, kst2_2l, kpr_r, kcat_n, kcat_i, kcat_r, kcat_z, kcat_l, kargs_0, kargs_s, kret_v, kret_n, kret_x, zl_62, zl_65, zl_124, jX7_lead_0, bX7_lead_0, jX7_lead_25, bX7_lead_25, jX7_lead_31, bX7_lead_31, Nat.reduceAdd, Nat.reduceLeDiff, Nat.reduceEqDiff, Nat.reduceSub, Nat.zero_le, Nat.add_left_cancel_iff, true_and, and_true, if_true, if_false, reduceIte, ne_eq, not_false_eq_true, Nat.add_eq_left, Nat.left_eq_add, kI_sI, kL_sI, kR_sI, kK_sI, kI_sL, kL_sL, kR_sL, kK_sL, kI_sIA, kL_sIA, kR_sIA, kK_sIA, kI_sLA, kL_sLA, kR_sLA, kK_sLA, wK_64 w, k4, hr]
    try simp (disch := omega) only [a_0, a_1, a_L0, a_L1, a_lt, a_le, a_eq, a_sub, a_addn, nI_add, pk_mul, a_in, nI_clamp, a_eqn, a_eqn', a_eqn2, a_n12, eq_self, a_ltn, a_ltn', a_len, a_len', a_shl1, z_shr, fa_and, fa_or, a_tb, a_tb0, a_b0, a_b1, a_bi, a_lc0, a_lcle, a_lcge, a_lclt, a_lcgt, upd_at, upd_ne, updL_at, updL_ne, Nat.reduceAdd, Nat.reduceSub, Nat.reduceMul, Nat.reduceLT, Nat.reduceLeDiff, Nat.reduceEqDiff, true_and, and_true, if_true, if_false, reduceIte, ne_eq, not_false_eq_true, not_true_eq_false, true_implies, false_implies, Nat.not_lt, Nat.not_le, Nat.le_refl, Nat.add_sub_cancel, Nat.lt_irrefl, Nat.not_lt_zero, Nat.zero_le, Nat.testBit_shiftRight, Nat.add_zero, reduceCtorEq, true_or, or_true, or_false, false_or, Bool.true_eq_false, Bool.false_eq_true, Bool.not_eq_false, Bool.not_eq_true, Decidable.not_not]
    repeat (first | refine ⟨fun _ => ?_, fun c => absurd c (by omega)⟩ | refine ⟨fun c => absurd c (by omega), fun _ => ?_⟩)
    refine c_X7put (v := 124) w K (by omega) (by omega) (fun h1 f1 K1 => ?_)
    simp only [ks_nop, ks_aload_0, ks_iload_1, ks_iload_2, ks_bipush, ks_iadd, ks_icmp_ne, ks_goto, ks_get0, ks_get3, ks_get1, ks_get2, ks_inv0, ks_inv1, ks_inv2, ks_inv4, ks_inv3, ks_inv5, ks_inv6, ks_inv7, ks_inv8, ks_vret, kldi_0, kldl_0, klda_0, kldz_0, kst1_0, kst2_0, kldi_1, kldl_1, klda_1, kldz_1, kst1_1n, kst2_1n, kst1_1i, kst2_1i, kst1_1r, kst2_1r, kst1_1z, kst2_1z, kst1_1l, kst2_1l, kldi_2, kldl_2, klda_2, kldz_2, kst1_2n, kst2_2n, kst1_2i, kst2_2i, kst1_2r, kst2_2r, kst1_2z, kst2_2z, kst1_2l, kst2_2l, kpr_r, kcat_n, kcat_i, kcat_r, kcat_z, kcat_l, kargs_0, kargs_s, kret_v, kret_n, kret_x, zl_62, zl_65, zl_124, jX7_lead_0, bX7_lead_0, jX7_lead_25, bX7_lead_25, jX7_lead_31, bX7_lead_31, Nat.reduceAdd, Nat.reduceLeDiff, Nat.reduceEqDiff, Nat.reduceSub, Nat.zero_le, Nat.add_left_cancel_iff, true_and, and_true, if_true, if_false, reduceIte, ne_eq, not_false_eq_true, Nat.add_eq_left, Nat.left_eq_add, kI_sI, kL_sI, kR_sI, kK_sI, kI_sL, kL_sL, kR_sL, kK_sL, kI_sIA, kL_sIA, kR_sIA, kK_sIA, kI_sLA, kL_sLA, kR_sLA, kK_sLA]
    try simp (disch := omega) only [a_0, a_1, a_L0, a_L1, a_lt, a_le, a_eq, a_sub, a_addn, nI_add, pk_mul, a_in, nI_clamp, a_eqn, a_eqn', a_eqn2, a_n12, eq_self, a_ltn, a_ltn', a_len, a_len', a_shl1, z_shr, fa_and, fa_or, a_tb, a_tb0, a_b0, a_b1, a_bi, a_lc0, a_lcle, a_lcge, a_lclt, a_lcgt, upd_at, upd_ne, updL_at, updL_ne, Nat.reduceAdd, Nat.reduceSub, Nat.reduceMul, Nat.reduceLT, Nat.reduceLeDiff, Nat.reduceEqDiff, true_and, and_true, if_true, if_false, reduceIte, ne_eq, not_false_eq_true, not_true_eq_false, true_implies, false_implies, Nat.not_lt, Nat.not_le, Nat.le_refl, Nat.add_sub_cancel, Nat.lt_irrefl, Nat.not_lt_zero, Nat.zero_le, Nat.testBit_shiftRight, Nat.add_zero, reduceCtorEq, true_or, or_true, or_false, false_or, Bool.true_eq_false, Bool.false_eq_true, Bool.not_eq_false, Bool.not_eq_true, Decidable.not_not]
    repeat (first | refine ⟨fun _ => ?_, fun c => absurd c (by omega)⟩ | refine ⟨fun c => absurd c (by omega), fun _ => ?_⟩)
    refine e31 h1 (H h1 f1 ?_)
    unfold ldT
    rw [if_neg e]
    rw [List.append_assoc] at K1
    exact K1
end CS7

/-! the class grows a tree -/
def TrX (B : GB) (P : List (List Nat)) (C : CL) (w : List Nat) (x i j : Nat) (T : TN) : Prop := ∃ n, TreeR B P C w n x i j T
def StkR (B : GB) (P : List (List Nat)) (C : CL) (w : List Nat) : TN → TN → Prop
  | [], T => T = []
  | q :: W, T => ∃ T1 T2, TrX B P C w q.1 q.2.1 q.2.2 T1 ∧ StkR B P C w W T2 ∧ T = T1 ++ T2
section TH
variable {B : GB} {P : List (List Nat)} {C : CL} {w : List Nat}
theorem TreeR_up {n x i j : Nat} {T : TN} (h : TreeR B P C w n x i j T) : ∀ d, TreeR B P C w (n + d) x i j T
  | 0 => h
  | d + 1 => TreeR_mono _ _ _ _ _ (TreeR_up h d)
theorem TrX_leaf (x i : Nat) : TrX B P C w x i (i + 1) [(x, i, 1)] := ⟨1, Or.inl ⟨rfl, rfl⟩⟩
theorem TrX_node {x i j k y z : Nat} {T1 T2 : TN} (h2 : i + 2 ≤ j) (s : SPL B P C w x i j k y z) (a : TrX B P C w y i k T1) (b : TrX B P C w z k j T2) : TrX B P C w x i j ((x, i, j - i) :: (T1 ++ T2)) := by
  obtain ⟨n, ha⟩ := a
  obtain ⟨m, hb⟩ := b
  have ha' := TreeR_up ha m
  have hb' := TreeR_up hb n
  rw [Nat.add_comm] at hb'
  exact ⟨n + m + 1, Or.inr ⟨h2, k, y, z, T1, T2, s, ha', hb', rfl⟩⟩
end TH
def en3 (x i j : Nat) : Nat := x * 1024 + i * 32 + j
theorem en3_or {x i j : Nat} (hx : x < 16) (hi : i < 32) (hj : j < 32) : kshl (nI x) (nI 10) ||| kshl (nI i) (nI 5) ||| nI j = nI (en3 x i j) := by
  rw [z_shl (by omega) (by omega), z_shl (by omega) (by omega), fa_or, fa_or]
  congr 1
  rw [n_or_add (a := x) (b := i * 2 ^ 5) (k := 10) (by omega), show x * 2 ^ 10 + i * 2 ^ 5 = (x * 32 + i) * 2 ^ 5 by omega, n_or_add (by omega)]
  unfold en3
  omega
theorem m31 (x : Nat) : x &&& 31 = x % 32 := Nat.and_two_pow_sub_one_eq_mod x 5
theorem m15 (x : Nat) : x &&& 15 = x % 16 := Nat.and_two_pow_sub_one_eq_mod x 4
def szT (W : TN) : Nat := (W.map (fun q => 2 * (q.2.2 - q.2.1) - 1)).sum
/-- the class's tree and what waits -/
def CT (h : KH) (T : TN) : Prop := kI h 50 5 = nI T.length ∧ ∀ i, i < T.length → kI h 53 i = nI (en3 (gT3 T i).1 (gT3 T i).2.1 ((gT3 T i).2.1 + (gT3 T i).2.2))
def CW (h : KH) (W : TN) : Prop := ∀ k, k < W.length → kI h 54 (W.length - 1 - k) = nI (en3 (gT3 W k).1 (gT3 W k).2.1 (gT3 W k).2.2)
def Wok (B : GB) (P : List (List Nat)) (C : CL) (w : List Nat) (W : TN) : Prop := ∀ q ∈ W, q.1 < C.length ∧ q.2.1 < q.2.2 ∧ q.2.2 ≤ w.length ∧ (hs B P C (sb w q.2.1 q.2.2)).testBit q.1 = true
theorem szT_len {B : GB} {P : List (List Nat)} {C : CL} {w : List Nat} : ∀ W : TN, Wok B P C w W → W.length ≤ szT W
  | [], _ => Nat.zero_le _
  | q :: W, h => by
    have h1 := szT_len W (fun p hp => h p (List.mem_cons_of_mem _ hp))
    have h2 := h q List.mem_cons_self
    unfold szT at h1 ⊢
    rw [List.map_cons, List.sum_cons, List.length_cons]
    omega
section GR
variable {r : Nat} {h : KH} {Q : KO → KH → Prop} {B : GB} {P : List (List Nat)} {C : CL}
theorem c_growTree {u : List Nat} (hr : 5 ≤ r) (w : kW h) (hC : COK C) (R : RU h B P C) (L : LC h B P C u u.length) (h1 : 1 ≤ u.length) (hl : u.length ≤ 20) (hc1 : 1 ≤ C.length) (hb : (hs B P C u).testBit 0 = true)
    (H : ∀ h' T, Fr [50, 53, 54] [] h h' → TrX B P C u 0 0 u.length T → CT h' T → Q (.inl (some (.int (nI T.length)))) h') : kCalls r yX3_growTree [.ref 50, .int (nI u.length)] h Q := by
  have r2 : 2 ≤ r := by omega
  have w0 := w
  have h12 := hC.1
  have st : ∀ h', Fr [50, 53, 54] [] h h' → kW h' ∧ RU h' B P C ∧ LC h' B P C u u.length := fun h' f => ⟨Fr_W f w0, RU_fr f (by simp) (by simp) (by simp) (by simp) R, by unfold LC; rw [f.2.1 51 (by simp)]; exact L⟩
  have loop : ∀ n (T0 W : TN), szT W = n → T0.length + n = 2 * u.length - 1 → Wok B P C u W → (∀ T', StkR B P C u W T' → TrX B P C u 0 0 u.length (T0 ++ T')) → ∀ h', Fr [50, 53, 54] [] h h' → CT h' T0 → CW h' W → ∀ (e4 e5 e6 e7 e8 : Option Value), kRun r mX3_growTree 16 [some (.ref 50), some (.int (nI u.length)), some (.int (nI W.length)), some (.int (nI T0.length)), e4, e5, e6, e7, e8] [] h' Q := by
    intro n
    induction n with
    | zero =>
      intro T0 W hsz hlen hW hcomp h' f ct cw e4 e5 e6 e7 e8
      have hwl := szT_len W hW
      have : W = [] := List.length_eq_zero_iff.mp (by omega)
      subst this
      have fin : ∀ (e2 : Option Value), kRun r mX3_growTree 164 [some (.ref 50), some (.int (nI u.length)), e2, some (.int (nI T0.length)), e4, e5, e6, e7, e8] [] h' Q := by
        intro e2
        obtain ⟨w, R', L'⟩ := st h' f
        have c5 : kI h' 50 5 = nI T0.length := ct.1
        refine eX3_growTree_164 ?_
        simp only [ks_nop, ks_aload_0, ks_iload_1, ks_iload_2, ks_iload_3, ks_iload, ks_istore_2, ks_istore_3, ks_istore, ks_iconst, ks_bipush, ks_iinc, ks_iadd, ks_iand, ks_ior, ks_ishl, ks_ishr, ks_dup_i, ks_dup_r, ks_icmp_eq, ks_icmp_ge, ks_icmp_gt, ks_if_le, ks_goto, ks_get0, ks_get3, ks_get1, ks_get2, ks_put0, ks_put1, ks_put2, ks_put3, ks_iald, ks_sld, ks_iast, ks_inv0, ks_inv1, ks_inv2, ks_inv4, ks_inv3, ks_inv5, ks_inv6, ks_inv7, ks_inv8, ks_iret0, kldi_0, kldl_0, klda_0, kldz_0, kst1_0, kst2_0, kldi_1, kldl_1, klda_1, kldz_1, kst1_1n, kst2_1n, kst1_1i, kst2_1i, kst1_1r, kst2_1r, kst1_1z, kst2_1z, kst1_1l, kst2_1l, kldi_2, kldl_2, klda_2, kldz_2, kst1_2n, kst2_2n, kst1_2i, kst2_2i, kst1_2r, kst2_2r, kst1_2z, kst2_2z, kst1_2l, kst2_2l, kldi_3, kldl_3, klda_3, kldz_3, kst1_3n, kst2_3n, kst1_3i, kst2_3i, kst1_3r, kst2_3r, kst1_3z, kst2_3z, kst1_3l, kst2_3l, kldi_4, kldl_4, klda_4, kldz_4, kst1_4n, kst2_4n, kst1_4i, kst2_4i, kst1_4r, kst2_4r, kst1_4z, kst2_4z, kst1_4l, kst2_4l, kldi_5, kldl_5, klda_5, kldz_5, kst1_5n, kst2_5n, kst1_5i, kst2_5i, kst1_5r, kst2_5r, kst1_5z, kst2_5z, kst1_5l, kst2_5l, kldi_6, kldl_6, klda_6, kldz_6, kst1_6n, kst2_6n, kst1_6i, kst2_6i, kst1_6r, kst2_6r, kst1_6z, kst2_6z, kst1_6l, kst2_6l, kldi_7, kldl_7, klda_7, kldz_7, kst1_7n, kst2_7n, kst1_7i, kst2_7i, kst1_7r, kst2_7r, kst1_7z, kst2_7z, kst1_7l, kst2_7l, kldi_8, kldl_8, klda_8, kldz_8, kst1_8n, kst2_8n, kst1_8i, kst2_8i, kst1_8r, kst2_8r, kst1_8z, kst2_8z, kst1_8l, kst2_8l, kpr_r, kcat_n, kcat_i, kcat_r, kcat_z, kcat_l, kargs_0, kargs_s, kret_v, kret_n, kret_x, zl_2, zl_4, zl_5, zl_8, zl_10, zl_15, zl_31, zl_39, jX3_growTree_0, bX3_growTree_0, jX3_growTree_16, bX3_growTree_16, jX3_growTree_158, bX3_growTree_158, jX3_growTree_164, bX3_growTree_164, Nat.reduceAdd, Nat.reduceLeDiff, Nat.reduceEqDiff, Nat.reduceSub, Nat.zero_le, Nat.add_left_cancel_iff, true_and, and_true, if_true, if_false, reduceIte, ne_eq, not_false_eq_true, Nat.add_eq_left, Nat.left_eq_add, kI_sI, kL_sI, kR_sI, kK_sI, kI_sL, kL_sL, kR_sL, kK_sL, kI_sIA, kL_sIA, kR_sIA, kK_sIA, kI_sLA, kL_sLA, kR_sLA, kK_sLA, wK_50 w, wR_50_0 w, wR_50_1 w, wR_50_3 w, wR_50_4 w, wK_51 w, wK_53 w, wK_54 w, c5]
        refine ⟨by simp, ?_⟩
        have := hcomp [] rfl
        rw [List.append_nil] at this
        exact H h' T0 f this ct
      have e : nI (List.length ([] : TN)) = nI 0 := rfl
      rw [e]
      clear e hwl hsz hW hcomp cw
      refine eX3_growTree_16 ?_
      simp only [ks_nop, ks_aload_0, ks_iload_1, ks_iload_2, ks_iload_3, ks_iload, ks_istore_2, ks_istore_3, ks_istore, ks_iconst, ks_bipush, ks_iinc, ks_iadd, ks_iand, ks_ior, ks_ishl, ks_ishr, ks_dup_i, ks_dup_r, ks_icmp_eq, ks_icmp_ge, ks_icmp_gt, ks_if_le, ks_goto, ks_get0, ks_get3, ks_get1, ks_get2, ks_put0, ks_put1, ks_put2, ks_put3, ks_iald, ks_sld, ks_iast, ks_inv0, ks_inv1, ks_inv2, ks_inv4, ks_inv3, ks_inv5, ks_inv6, ks_inv7, ks_inv8, ks_iret0, kldi_0, kldl_0, klda_0, kldz_0, kst1_0, kst2_0, kldi_1, kldl_1, klda_1, kldz_1, kst1_1n, kst2_1n, kst1_1i, kst2_1i, kst1_1r, kst2_1r, kst1_1z, kst2_1z, kst1_1l, kst2_1l, kldi_2, kldl_2, klda_2, kldz_2, kst1_2n, kst2_2n, kst1_2i, kst2_2i, kst1_2r, kst2_2r, kst1_2z, kst2_2z, kst1_2l, kst2_2l, kldi_3, kldl_3, klda_3, kldz_3, kst1_3n, kst2_3n, kst1_3i, kst2_3i, kst1_3r, kst2_3r, kst1_3z, kst2_3z, kst1_3l, kst2_3l, kldi_4, kldl_4, klda_4, kldz_4, kst1_4n, kst2_4n, kst1_4i, kst2_4i, kst1_4r, kst2_4r, kst1_4z, kst2_4z, kst1_4l, kst2_4l, kldi_5, kldl_5, klda_5, kldz_5, kst1_5n, kst2_5n, kst1_5i, kst2_5i, kst1_5r, kst2_5r, kst1_5z, kst2_5z, kst1_5l, kst2_5l, kldi_6, kldl_6, klda_6, kldz_6, kst1_6n, kst2_6n, kst1_6i, kst2_6i, kst1_6r, kst2_6r, kst1_6z, kst2_6z, kst1_6l, kst2_6l, kldi_7, kldl_7, klda_7, kldz_7, kst1_7n, kst2_7n, kst1_7i, kst2_7i, kst1_7r, kst2_7r, kst1_7z, kst2_7z, kst1_7l, kst2_7l, kldi_8, kldl_8, klda_8, kldz_8, kst1_8n, kst2_8n, kst1_8i, kst2_8i, kst1_8r, kst2_8r, kst1_8z, kst2_8z, kst1_8l, kst2_8l, kpr_r, kcat_n, kcat_i, kcat_r, kcat_z, kcat_l, kargs_0, kargs_s, kret_v, kret_n, kret_x, zl_2, zl_4, zl_5, zl_8, zl_10, zl_15, zl_31, zl_39, jX3_growTree_0, bX3_growTree_0, jX3_growTree_16, bX3_growTree_16, jX3_growTree_158, bX3_growTree_158, jX3_growTree_164, bX3_growTree_164, Nat.reduceAdd, Nat.reduceLeDiff, Nat.reduceEqDiff, Nat.reduceSub, Nat.zero_le, Nat.add_left_cancel_iff, true_and, and_true, if_true, if_false, reduceIte, ne_eq, not_false_eq_true, Nat.add_eq_left, Nat.left_eq_add, kI_sI, kL_sI, kR_sI, kK_sI, kI_sL, kL_sL, kR_sL, kK_sL, kI_sIA, kL_sIA, kR_sIA, kK_sIA, kI_sLA, kL_sLA, kR_sLA, kK_sLA]
      exact ⟨fun _ => fin _, fun _ => ⟨fun _ => fin _, fun c => absurd (show nI 0 ≤ 0 by decide) c⟩⟩
    | succ n ih =>
      intro T0 W hsz hlen hW hcomp h' f ct cw e4 e5 e6 e7 e8
      obtain ⟨w, R', L'⟩ := st h' f
      match W, hsz, hW, hcomp, cw with
      | [], hsz, _, _, _ => exact absurd hsz (by simp [szT])
      | (x, i, j) :: W, hsz, hW, hcomp, cw =>
        have hq := hW (x, i, j) List.mem_cons_self
        simp only at hq
        obtain ⟨q1, q2, q3, q4⟩ := hq
        have hW' : Wok B P C u W := fun p hp => hW p (List.mem_cons_of_mem _ hp)
        have hwl := szT_len W hW'
        have hs2 : 2 * (j - i) - 1 + szT W = n + 1 := by rw [← hsz]; simp [szT]
        have c0 := cw 0 (by simp)
        simp only [List.length_cons, Nat.sub_zero, Nat.add_sub_cancel] at c0
        have c0 : kI h' 54 W.length = nI (en3 x i j) := c0
        have eb : en3 x i j < 16384 := by unfold en3; omega
        have d5 : en3 x i j >>> 5 &&& 31 = i := by rw [m31, Nat.shiftRight_eq_div_pow]; unfold en3; omega
        have d0 : en3 x i j &&& 31 = j := by rw [m31]; unfold en3; omega
        have d10 : en3 x i j >>> 10 = x := by rw [Nat.shiftRight_eq_div_pow]; unfold en3; omega
        obtain ⟨nd, nde⟩ : ∃ nd, nd = en3 x i j := ⟨_, rfl⟩
        rw [← nde] at c0 eb d5 d0 d10
        have c5 : kI h' 50 5 = nI T0.length := ct.1
        refine eX3_growTree_16 ?_
        simp only [ks_nop, ks_aload_0, ks_iload_1, ks_iload_2, ks_iload_3, ks_iload, ks_istore_2, ks_istore_3, ks_istore, ks_iconst, ks_bipush, ks_iinc, ks_iadd, ks_iand, ks_ior, ks_ishl, ks_ishr, ks_dup_i, ks_dup_r, ks_icmp_eq, ks_icmp_ge, ks_icmp_gt, ks_if_le, ks_goto, ks_get0, ks_get3, ks_get1, ks_get2, ks_put0, ks_put1, ks_put2, ks_put3, ks_iald, ks_sld, ks_iast, ks_inv0, ks_inv1, ks_inv2, ks_inv4, ks_inv3, ks_inv5, ks_inv6, ks_inv7, ks_inv8, ks_iret0, kldi_0, kldl_0, klda_0, kldz_0, kst1_0, kst2_0, kldi_1, kldl_1, klda_1, kldz_1, kst1_1n, kst2_1n, kst1_1i, kst2_1i, kst1_1r, kst2_1r, kst1_1z, kst2_1z, kst1_1l, kst2_1l, kldi_2, kldl_2, klda_2, kldz_2, kst1_2n, kst2_2n, kst1_2i, kst2_2i, kst1_2r, kst2_2r, kst1_2z, kst2_2z, kst1_2l, kst2_2l, kldi_3, kldl_3, klda_3, kldz_3, kst1_3n, kst2_3n, kst1_3i, kst2_3i, kst1_3r, kst2_3r, kst1_3z, kst2_3z, kst1_3l, kst2_3l, kldi_4, kldl_4, klda_4, kldz_4, kst1_4n, kst2_4n, kst1_4i, kst2_4i, kst1_4r, kst2_4r, kst1_4z, kst2_4z, kst1_4l, kst2_4l, kldi_5, kldl_5, klda_5, kldz_5, kst1_5n, kst2_5n, kst1_5i, kst2_5i, kst1_5r, kst2_5r, kst1_5z, kst2_5z, kst1_5l, kst2_5l, kldi_6, kldl_6, klda_6, kldz_6, kst1_6n, kst2_6n, kst1_6i, kst2_6i, kst1_6r, kst2_6r, kst1_6z, kst2_6z, kst1_6l, kst2_6l, kldi_7, kldl_7, klda_7, kldz_7, kst1_7n, kst2_7n, kst1_7i, kst2_7i, kst1_7r, kst2_7r, kst1_7z, kst2_7z, kst1_7l, kst2_7l, kldi_8, kldl_8, klda_8, kldz_8, kst1_8n, kst2_8n, kst1_8i, kst2_8i, kst1_8r, kst2_8r, kst1_8z, kst2_8z, kst1_8l, kst2_8l, kpr_r, kcat_n, kcat_i, kcat_r, kcat_z, kcat_l, kargs_0, kargs_s, kret_v, kret_n, kret_x, zl_2, zl_4, zl_5, zl_8, zl_10, zl_15, zl_31, zl_39, jX3_growTree_0, bX3_growTree_0, jX3_growTree_16, bX3_growTree_16, jX3_growTree_158, bX3_growTree_158, jX3_growTree_164, bX3_growTree_164, Nat.reduceAdd, Nat.reduceLeDiff, Nat.reduceEqDiff, Nat.reduceSub, Nat.zero_le, Nat.add_left_cancel_iff, true_and, and_true, if_true, if_false, reduceIte, ne_eq, not_false_eq_true, Nat.add_eq_left, Nat.left_eq_add, kI_sI, kL_sI, kR_sI, kK_sI, kI_sL, kL_sL, kR_sL, kK_sL, kI_sIA, kL_sIA, kR_sIA, kK_sIA, kI_sLA, kL_sLA, kR_sLA, kK_sLA, wK_50 w, wR_50_0 w, wR_50_1 w, wR_50_3 w, wR_50_4 w, wK_51 w, wK_53 w, wK_54 w, List.length_cons, c0, c5, r2]
        try simp (disch := omega) only [a_0, a_1, a_L0, a_L1, a_lt, a_le, a_eq, a_sub, a_addn, nI_add, pk_mul, a_in, nI_clamp, a_eqn, a_eqn', a_eqn2, a_n12, eq_self, a_ltn, a_ltn', a_len, a_len', a_shl1, z_shr, fa_and, fa_or, a_tb, a_tb0, a_b0, a_b1, a_bi, a_lc0, a_lcle, a_lcge, a_lclt, a_lcgt, upd_at, upd_ne, updL_at, updL_ne, Nat.reduceAdd, Nat.reduceSub, Nat.reduceMul, Nat.reduceLT, Nat.reduceLeDiff, Nat.reduceEqDiff, true_and, and_true, if_true, if_false, reduceIte, ne_eq, not_false_eq_true, not_true_eq_false, true_implies, false_implies, Nat.not_lt, Nat.not_le, Nat.le_refl, Nat.add_sub_cancel, Nat.lt_irrefl, Nat.not_lt_zero, Nat.zero_le, Nat.testBit_shiftRight, Nat.add_zero, reduceCtorEq, true_or, or_true, or_false, false_or, Bool.true_eq_false, Bool.false_eq_true, Bool.not_eq_false, Bool.not_eq_true, Decidable.not_not, wK_50 w, wR_50_0 w, wR_50_1 w, wR_50_3 w, wR_50_4 w, wK_51 w, wK_53 w, wK_54 w, List.length_cons, c0, c5, r2]
        repeat (first | refine ⟨fun _ => ?_, fun c => absurd c (by omega)⟩ | refine ⟨fun c => absurd c (by omega), fun _ => ?_⟩)
        rw [d10, d5, d0]
        have g1 : Fr [50, 53, 54] [] h (sI (sI h' 53 T0.length (nI nd)) 50 5 (nI (T0.length + 1))) := Fr_sI (Fr_sI f (by simp)) (by simp)
        have g50 : kI (sI (sI h' 53 T0.length (nI nd)) 50 5 (nI (T0.length + 1))) 50 5 = nI (T0.length + 1) := by
          simp only [kI_sI, Nat.reduceAdd, Nat.reduceLeDiff, Nat.reduceEqDiff, Nat.reduceSub, Nat.zero_le, Nat.add_left_cancel_iff, true_and, and_true, if_true, if_false, reduceIte, ne_eq, not_false_eq_true, Nat.add_eq_left, Nat.left_eq_add]
          rw [upd_at]
        have g53 : kI (sI (sI h' 53 T0.length (nI nd)) 50 5 (nI (T0.length + 1))) 53 = upd (kI h' 53) T0.length (nI nd) := by
          simp only [kI_sI, Nat.reduceAdd, Nat.reduceLeDiff, Nat.reduceEqDiff, Nat.reduceSub, Nat.zero_le, Nat.add_left_cancel_iff, true_and, and_true, if_true, if_false, reduceIte, ne_eq, not_false_eq_true, Nat.add_eq_left, Nat.left_eq_add]
        have g54 : kI (sI (sI h' 53 T0.length (nI nd)) 50 5 (nI (T0.length + 1))) 54 = kI h' 54 := by
          simp only [kI_sI, Nat.reduceAdd, Nat.reduceLeDiff, Nat.reduceEqDiff, Nat.reduceSub, Nat.zero_le, Nat.add_left_cancel_iff, true_and, and_true, if_true, if_false, reduceIte, ne_eq, not_false_eq_true, Nat.add_eq_left, Nat.left_eq_add]
        generalize sI (sI h' 53 T0.length (nI nd)) 50 5 (nI (T0.length + 1)) = h1 at g1 g50 g53 g54 ⊢
        have ct1 : CT h1 (T0 ++ [(x, i, j - i)]) := by
          refine ⟨by rw [g50, List.length_append]; rfl, fun k hk => ?_⟩
          rw [List.length_append] at hk
          rw [g53]
          by_cases e : k = T0.length
          · rw [e, upd_at, gT3_r]
            show nI nd = nI (en3 x i (i + (j - i)))
            rw [show i + (j - i) = j by omega, nde]
          · have hk2 : k < T0.length := by simp at hk; omega
            rw [upd_ne _ _ e, gT3_l hk2]; exact ct.2 k hk2
        have cw1 : ∀ k, k < W.length → kI h1 54 (W.length - 1 - k) = nI (en3 (gT3 W k).1 (gT3 W k).2.1 (gT3 W k).2.2) := by
          intro k hk
          have := cw (k + 1) (by simp; omega)
          simp only [List.length_cons] at this
          rw [show W.length + 1 - 1 - (k + 1) = W.length - 1 - k by omega] at this
          rw [g54]; exact this
        obtain ⟨w, R1, L1⟩ := st h1 g1
        have tl : (T0 ++ [(x, i, j - i)]).length = T0.length + 1 := by simp
        refine c_split (u := u) (by omega) w hC R1 L1 hl q2 q3 q1 (fun _ => q4) (fun ej => ?_) (fun k y z h2 sp => ?_)
        · simp only [ks_nop, ks_aload_0, ks_iload_1, ks_iload_2, ks_iload_3, ks_iload, ks_istore_2, ks_istore_3, ks_istore, ks_iconst, ks_bipush, ks_iinc, ks_iadd, ks_iand, ks_ior, ks_ishl, ks_ishr, ks_dup_i, ks_dup_r, ks_icmp_eq, ks_icmp_ge, ks_icmp_gt, ks_if_le, ks_goto, ks_get0, ks_get3, ks_get1, ks_get2, ks_put0, ks_put1, ks_put2, ks_put3, ks_iald, ks_sld, ks_iast, ks_inv0, ks_inv1, ks_inv2, ks_inv4, ks_inv3, ks_inv5, ks_inv6, ks_inv7, ks_inv8, ks_iret0, kldi_0, kldl_0, klda_0, kldz_0, kst1_0, kst2_0, kldi_1, kldl_1, klda_1, kldz_1, kst1_1n, kst2_1n, kst1_1i, kst2_1i, kst1_1r, kst2_1r, kst1_1z, kst2_1z, kst1_1l, kst2_1l, kldi_2, kldl_2, klda_2, kldz_2, kst1_2n, kst2_2n, kst1_2i, kst2_2i, kst1_2r, kst2_2r, kst1_2z, kst2_2z, kst1_2l, kst2_2l, kldi_3, kldl_3, klda_3, kldz_3, kst1_3n, kst2_3n, kst1_3i, kst2_3i, kst1_3r, kst2_3r, kst1_3z, kst2_3z, kst1_3l, kst2_3l, kldi_4, kldl_4, klda_4, kldz_4, kst1_4n, kst2_4n, kst1_4i, kst2_4i, kst1_4r, kst2_4r, kst1_4z, kst2_4z, kst1_4l, kst2_4l, kldi_5, kldl_5, klda_5, kldz_5, kst1_5n, kst2_5n, kst1_5i, kst2_5i, kst1_5r, kst2_5r, kst1_5z, kst2_5z, kst1_5l, kst2_5l, kldi_6, kldl_6, klda_6, kldz_6, kst1_6n, kst2_6n, kst1_6i, kst2_6i, kst1_6r, kst2_6r, kst1_6z, kst2_6z, kst1_6l, kst2_6l, kldi_7, kldl_7, klda_7, kldz_7, kst1_7n, kst2_7n, kst1_7i, kst2_7i, kst1_7r, kst2_7r, kst1_7z, kst2_7z, kst1_7l, kst2_7l, kldi_8, kldl_8, klda_8, kldz_8, kst1_8n, kst2_8n, kst1_8i, kst2_8i, kst1_8r, kst2_8r, kst1_8z, kst2_8z, kst1_8l, kst2_8l, kpr_r, kcat_n, kcat_i, kcat_r, kcat_z, kcat_l, kargs_0, kargs_s, kret_v, kret_n, kret_x, zl_2, zl_4, zl_5, zl_8, zl_10, zl_15, zl_31, zl_39, jX3_growTree_0, bX3_growTree_0, jX3_growTree_16, bX3_growTree_16, jX3_growTree_158, bX3_growTree_158, jX3_growTree_164, bX3_growTree_164, Nat.reduceAdd, Nat.reduceLeDiff, Nat.reduceEqDiff, Nat.reduceSub, Nat.zero_le, Nat.add_left_cancel_iff, true_and, and_true, if_true, if_false, reduceIte, ne_eq, not_false_eq_true, Nat.add_eq_left, Nat.left_eq_add, kI_sI, kL_sI, kR_sI, kK_sI, kI_sL, kL_sL, kR_sL, kK_sL, kI_sIA, kL_sIA, kR_sIA, kK_sIA, kI_sLA, kL_sLA, kR_sLA, kK_sLA]
          try simp (disch := omega) only [a_0, a_1, a_L0, a_L1, a_lt, a_le, a_eq, a_sub, a_addn, nI_add, pk_mul, a_in, nI_clamp, a_eqn, a_eqn', a_eqn2, a_n12, eq_self, a_ltn, a_ltn', a_len, a_len', a_shl1, z_shr, fa_and, fa_or, a_tb, a_tb0, a_b0, a_b1, a_bi, a_lc0, a_lcle, a_lcge, a_lclt, a_lcgt, upd_at, upd_ne, updL_at, updL_ne, Nat.reduceAdd, Nat.reduceSub, Nat.reduceMul, Nat.reduceLT, Nat.reduceLeDiff, Nat.reduceEqDiff, true_and, and_true, if_true, if_false, reduceIte, ne_eq, not_false_eq_true, not_true_eq_false, true_implies, false_implies, Nat.not_lt, Nat.not_le, Nat.le_refl, Nat.add_sub_cancel, Nat.lt_irrefl, Nat.not_lt_zero, Nat.zero_le, Nat.testBit_shiftRight, Nat.add_zero, reduceCtorEq, true_or, or_true, or_false, false_or, Bool.true_eq_false, Bool.false_eq_true, Bool.not_eq_false, Bool.not_eq_true, Decidable.not_not]
          repeat (first | refine ⟨fun _ => ?_, fun c => absurd c (by omega)⟩ | refine ⟨fun c => absurd c (by omega), fun _ => ?_⟩)
          refine eX3_growTree_158 ?_
          simp only [ks_nop, ks_aload_0, ks_iload_1, ks_iload_2, ks_iload_3, ks_iload, ks_istore_2, ks_istore_3, ks_istore, ks_iconst, ks_bipush, ks_iinc, ks_iadd, ks_iand, ks_ior, ks_ishl, ks_ishr, ks_dup_i, ks_dup_r, ks_icmp_eq, ks_icmp_ge, ks_icmp_gt, ks_if_le, ks_goto, ks_get0, ks_get3, ks_get1, ks_get2, ks_put0, ks_put1, ks_put2, ks_put3, ks_iald, ks_sld, ks_iast, ks_inv0, ks_inv1, ks_inv2, ks_inv4, ks_inv3, ks_inv5, ks_inv6, ks_inv7, ks_inv8, ks_iret0, kldi_0, kldl_0, klda_0, kldz_0, kst1_0, kst2_0, kldi_1, kldl_1, klda_1, kldz_1, kst1_1n, kst2_1n, kst1_1i, kst2_1i, kst1_1r, kst2_1r, kst1_1z, kst2_1z, kst1_1l, kst2_1l, kldi_2, kldl_2, klda_2, kldz_2, kst1_2n, kst2_2n, kst1_2i, kst2_2i, kst1_2r, kst2_2r, kst1_2z, kst2_2z, kst1_2l, kst2_2l, kldi_3, kldl_3, klda_3, kldz_3, kst1_3n, kst2_3n, kst1_3i, kst2_3i, kst1_3r, kst2_3r, kst1_3z, kst2_3z, kst1_3l, kst2_3l, kldi_4, kldl_4, klda_4, kldz_4, kst1_4n, kst2_4n, kst1_4i, kst2_4i, kst1_4r, kst2_4r, kst1_4z, kst2_4z, kst1_4l, kst2_4l, kldi_5, kldl_5, klda_5, kldz_5, kst1_5n, kst2_5n, kst1_5i, kst2_5i, kst1_5r, kst2_5r, kst1_5z, kst2_5z, kst1_5l, kst2_5l, kldi_6, kldl_6, klda_6, kldz_6, kst1_6n, kst2_6n, kst1_6i, kst2_6i, kst1_6r, kst2_6r, kst1_6z, kst2_6z, kst1_6l, kst2_6l, kldi_7, kldl_7, klda_7, kldz_7, kst1_7n, kst2_7n, kst1_7i, kst2_7i, kst1_7r, kst2_7r, kst1_7z, kst2_7z, kst1_7l, kst2_7l, kldi_8, kldl_8, klda_8, kldz_8, kst1_8n, kst2_8n, kst1_8i, kst2_8i, kst1_8r, kst2_8r, kst1_8z, kst2_8z, kst1_8l, kst2_8l, kpr_r, kcat_n, kcat_i, kcat_r, kcat_z, kcat_l, kargs_0, kargs_s, kret_v, kret_n, kret_x, zl_2, zl_4, zl_5, zl_8, zl_10, zl_15, zl_31, zl_39, jX3_growTree_0, bX3_growTree_0, jX3_growTree_16, bX3_growTree_16, jX3_growTree_158, bX3_growTree_158, jX3_growTree_164, bX3_growTree_164, Nat.reduceAdd, Nat.reduceLeDiff, Nat.reduceEqDiff, Nat.reduceSub, Nat.zero_le, Nat.add_left_cancel_iff, true_and, and_true, if_true, if_false, reduceIte, ne_eq, not_false_eq_true, Nat.add_eq_left, Nat.left_eq_add, kI_sI, kL_sI, kR_sI, kK_sI, kI_sL, kL_sL, kR_sL, kK_sL, kI_sIA, kL_sIA, kR_sIA, kK_sIA, kI_sLA, kL_sLA, kR_sLA, kK_sLA]
          try simp (disch := omega) only [a_0, a_1, a_L0, a_L1, a_lt, a_le, a_eq, a_sub, a_addn, nI_add, pk_mul, a_in, nI_clamp, a_eqn, a_eqn', a_eqn2, a_n12, eq_self, a_ltn, a_ltn', a_len, a_len', a_shl1, z_shr, fa_and, fa_or, a_tb, a_tb0, a_b0, a_b1, a_bi, a_lc0, a_lcle, a_lcge, a_lclt, a_lcgt, upd_at, upd_ne, updL_at, updL_ne, Nat.reduceAdd, Nat.reduceSub, Nat.reduceMul, Nat.reduceLT, Nat.reduceLeDiff, Nat.reduceEqDiff, true_and, and_true, if_true, if_false, reduceIte, ne_eq, not_false_eq_true, not_true_eq_false, true_implies, false_implies, Nat.not_lt, Nat.not_le, Nat.le_refl, Nat.add_sub_cancel, Nat.lt_irrefl, Nat.not_lt_zero, Nat.zero_le, Nat.testBit_shiftRight, Nat.add_zero, reduceCtorEq, true_or, or_true, or_false, false_or, Bool.true_eq_false, Bool.false_eq_true, Bool.not_eq_false, Bool.not_eq_true, Decidable.not_not]
          repeat (first | refine ⟨fun _ => ?_, fun c => absurd c (by omega)⟩ | refine ⟨fun c => absurd c (by omega), fun _ => ?_⟩)
          have := ih (T0 ++ [(x, i, j - i)]) W (by omega) (by rw [tl]; omega) hW' (fun T' hT' => ?_) h1 g1 ct1 cw1
          · rw [tl] at this
            exact this _ _ _ _ _
          · have := hcomp ([(x, i, j - i)] ++ T') ⟨[(x, i, j - i)], T', ?_, hT', rfl⟩
            · rw [List.append_assoc]; exact this
            · subst ej
              rw [show i + 1 - i = 1 by omega]
              exact TrX_leaf x i
        · have sR := R2_iff.mp sp.2.2.2.2.1
          have k1 := sp.1
          have k2 := sp.2.1
          have y12 := sR.2.1
          have z12 := sR.2.2.1
          have s8 : (k * 256 + y * 16 + z) >>> 8 = k := by rw [Nat.shiftRight_eq_div_pow]; omega
          have s0 : (k * 256 + y * 16 + z) &&& 15 = z := by rw [m15]; omega
          have s4 : (k * 256 + y * 16 + z) >>> 4 &&& 15 = y := by rw [m15, Nat.shiftRight_eq_div_pow]; omega
          have sb' : k * 256 + y * 16 + z < 2 ^ 14 := by omega
          generalize k * 256 + y * 16 + z = sv at s8 s0 s4 sb'
          simp only [ks_nop, ks_aload_0, ks_iload_1, ks_iload_2, ks_iload_3, ks_iload, ks_istore_2, ks_istore_3, ks_istore, ks_iconst, ks_bipush, ks_iinc, ks_iadd, ks_iand, ks_ior, ks_ishl, ks_ishr, ks_dup_i, ks_dup_r, ks_icmp_eq, ks_icmp_ge, ks_icmp_gt, ks_if_le, ks_goto, ks_get0, ks_get3, ks_get1, ks_get2, ks_put0, ks_put1, ks_put2, ks_put3, ks_iald, ks_sld, ks_iast, ks_inv0, ks_inv1, ks_inv2, ks_inv4, ks_inv3, ks_inv5, ks_inv6, ks_inv7, ks_inv8, ks_iret0, kldi_0, kldl_0, klda_0, kldz_0, kst1_0, kst2_0, kldi_1, kldl_1, klda_1, kldz_1, kst1_1n, kst2_1n, kst1_1i, kst2_1i, kst1_1r, kst2_1r, kst1_1z, kst2_1z, kst1_1l, kst2_1l, kldi_2, kldl_2, klda_2, kldz_2, kst1_2n, kst2_2n, kst1_2i, kst2_2i, kst1_2r, kst2_2r, kst1_2z, kst2_2z, kst1_2l, kst2_2l, kldi_3, kldl_3, klda_3, kldz_3, kst1_3n, kst2_3n, kst1_3i, kst2_3i, kst1_3r, kst2_3r, kst1_3z, kst2_3z, kst1_3l, kst2_3l, kldi_4, kldl_4, klda_4, kldz_4, kst1_4n, kst2_4n, kst1_4i, kst2_4i, kst1_4r, kst2_4r, kst1_4z, kst2_4z, kst1_4l, kst2_4l, kldi_5, kldl_5, klda_5, kldz_5, kst1_5n, kst2_5n, kst1_5i, kst2_5i, kst1_5r, kst2_5r, kst1_5z, kst2_5z, kst1_5l, kst2_5l, kldi_6, kldl_6, klda_6, kldz_6, kst1_6n, kst2_6n, kst1_6i, kst2_6i, kst1_6r, kst2_6r, kst1_6z, kst2_6z, kst1_6l, kst2_6l, kldi_7, kldl_7, klda_7, kldz_7, kst1_7n, kst2_7n, kst1_7i, kst2_7i, kst1_7r, kst2_7r, kst1_7z, kst2_7z, kst1_7l, kst2_7l, kldi_8, kldl_8, klda_8, kldz_8, kst1_8n, kst2_8n, kst1_8i, kst2_8i, kst1_8r, kst2_8r, kst1_8z, kst2_8z, kst1_8l, kst2_8l, kpr_r, kcat_n, kcat_i, kcat_r, kcat_z, kcat_l, kargs_0, kargs_s, kret_v, kret_n, kret_x, zl_2, zl_4, zl_5, zl_8, zl_10, zl_15, zl_31, zl_39, jX3_growTree_0, bX3_growTree_0, jX3_growTree_16, bX3_growTree_16, jX3_growTree_158, bX3_growTree_158, jX3_growTree_164, bX3_growTree_164, Nat.reduceAdd, Nat.reduceLeDiff, Nat.reduceEqDiff, Nat.reduceSub, Nat.zero_le, Nat.add_left_cancel_iff, true_and, and_true, if_true, if_false, reduceIte, ne_eq, not_false_eq_true, Nat.add_eq_left, Nat.left_eq_add, kI_sI, kL_sI, kR_sI, kK_sI, kI_sL, kL_sL, kR_sL, kK_sL, kI_sIA, kL_sIA, kR_sIA, kK_sIA, kI_sLA, kL_sLA, kR_sLA, kK_sLA, wK_50 w, wR_50_0 w, wR_50_1 w, wR_50_3 w, wR_50_4 w, wK_51 w, wK_53 w, wK_54 w]
          try simp (disch := omega) only [a_0, a_1, a_L0, a_L1, a_lt, a_le, a_eq, a_sub, a_addn, nI_add, pk_mul, a_in, nI_clamp, a_eqn, a_eqn', a_eqn2, a_n12, eq_self, a_ltn, a_ltn', a_len, a_len', a_shl1, z_shr, fa_and, fa_or, a_tb, a_tb0, a_b0, a_b1, a_bi, a_lc0, a_lcle, a_lcge, a_lclt, a_lcgt, upd_at, upd_ne, updL_at, updL_ne, Nat.reduceAdd, Nat.reduceSub, Nat.reduceMul, Nat.reduceLT, Nat.reduceLeDiff, Nat.reduceEqDiff, true_and, and_true, if_true, if_false, reduceIte, ne_eq, not_false_eq_true, not_true_eq_false, true_implies, false_implies, Nat.not_lt, Nat.not_le, Nat.le_refl, Nat.add_sub_cancel, Nat.lt_irrefl, Nat.not_lt_zero, Nat.zero_le, Nat.testBit_shiftRight, Nat.add_zero, reduceCtorEq, true_or, or_true, or_false, false_or, Bool.true_eq_false, Bool.false_eq_true, Bool.not_eq_false, Bool.not_eq_true, Decidable.not_not, wK_50 w, wR_50_0 w, wR_50_1 w, wR_50_3 w, wR_50_4 w, wK_51 w, wK_53 w, wK_54 w]
          repeat (first | refine ⟨fun _ => ?_, fun c => absurd c (by omega)⟩ | refine ⟨fun c => absurd c (by omega), fun _ => ?_⟩)
          try simp (disch := omega) only [a_0, a_1, a_L0, a_L1, a_lt, a_le, a_eq, a_sub, a_addn, nI_add, pk_mul, a_in, nI_clamp, a_eqn, a_eqn', a_eqn2, a_n12, eq_self, a_ltn, a_ltn', a_len, a_len', a_shl1, z_shr, fa_and, fa_or, a_tb, a_tb0, a_b0, a_b1, a_bi, a_lc0, a_lcle, a_lcge, a_lclt, a_lcgt, upd_at, upd_ne, updL_at, updL_ne, Nat.reduceAdd, Nat.reduceSub, Nat.reduceMul, Nat.reduceLT, Nat.reduceLeDiff, Nat.reduceEqDiff, true_and, and_true, if_true, if_false, reduceIte, ne_eq, not_false_eq_true, not_true_eq_false, true_implies, false_implies, Nat.not_lt, Nat.not_le, Nat.le_refl, Nat.add_sub_cancel, Nat.lt_irrefl, Nat.not_lt_zero, Nat.zero_le, Nat.testBit_shiftRight, Nat.add_zero, reduceCtorEq, true_or, or_true, or_false, false_or, Bool.true_eq_false, Bool.false_eq_true, Bool.not_eq_false, Bool.not_eq_true, Decidable.not_not, s8, s0, s4]
          try simp only [s8, s0, s4]
          rw [en3_or (by omega) (by omega) (by omega), en3_or (by omega) (by omega) (by omega)]
          refine eX3_growTree_158 ?_
          simp only [ks_nop, ks_aload_0, ks_iload_1, ks_iload_2, ks_iload_3, ks_iload, ks_istore_2, ks_istore_3, ks_istore, ks_iconst, ks_bipush, ks_iinc, ks_iadd, ks_iand, ks_ior, ks_ishl, ks_ishr, ks_dup_i, ks_dup_r, ks_icmp_eq, ks_icmp_ge, ks_icmp_gt, ks_if_le, ks_goto, ks_get0, ks_get3, ks_get1, ks_get2, ks_put0, ks_put1, ks_put2, ks_put3, ks_iald, ks_sld, ks_iast, ks_inv0, ks_inv1, ks_inv2, ks_inv4, ks_inv3, ks_inv5, ks_inv6, ks_inv7, ks_inv8, ks_iret0, kldi_0, kldl_0, klda_0, kldz_0, kst1_0, kst2_0, kldi_1, kldl_1, klda_1, kldz_1, kst1_1n, kst2_1n, kst1_1i, kst2_1i, kst1_1r, kst2_1r, kst1_1z, kst2_1z, kst1_1l, kst2_1l, kldi_2, kldl_2, klda_2, kldz_2, kst1_2n, kst2_2n, kst1_2i, kst2_2i, kst1_2r, kst2_2r, kst1_2z, kst2_2z, kst1_2l, kst2_2l, kldi_3, kldl_3, klda_3, kldz_3, kst1_3n, kst2_3n, kst1_3i, kst2_3i, kst1_3r, kst2_3r, kst1_3z, kst2_3z, kst1_3l, kst2_3l, kldi_4, kldl_4, klda_4, kldz_4, kst1_4n, kst2_4n, kst1_4i, kst2_4i, kst1_4r, kst2_4r, kst1_4z, kst2_4z, kst1_4l, kst2_4l, kldi_5, kldl_5, klda_5, kldz_5, kst1_5n, kst2_5n, kst1_5i, kst2_5i, kst1_5r, kst2_5r, kst1_5z, kst2_5z, kst1_5l, kst2_5l, kldi_6, kldl_6, klda_6, kldz_6, kst1_6n, kst2_6n, kst1_6i, kst2_6i, kst1_6r, kst2_6r, kst1_6z, kst2_6z, kst1_6l, kst2_6l, kldi_7, kldl_7, klda_7, kldz_7, kst1_7n, kst2_7n, kst1_7i, kst2_7i, kst1_7r, kst2_7r, kst1_7z, kst2_7z, kst1_7l, kst2_7l, kldi_8, kldl_8, klda_8, kldz_8, kst1_8n, kst2_8n, kst1_8i, kst2_8i, kst1_8r, kst2_8r, kst1_8z, kst2_8z, kst1_8l, kst2_8l, kpr_r, kcat_n, kcat_i, kcat_r, kcat_z, kcat_l, kargs_0, kargs_s, kret_v, kret_n, kret_x, zl_2, zl_4, zl_5, zl_8, zl_10, zl_15, zl_31, zl_39, jX3_growTree_0, bX3_growTree_0, jX3_growTree_16, bX3_growTree_16, jX3_growTree_158, bX3_growTree_158, jX3_growTree_164, bX3_growTree_164, Nat.reduceAdd, Nat.reduceLeDiff, Nat.reduceEqDiff, Nat.reduceSub, Nat.zero_le, Nat.add_left_cancel_iff, true_and, and_true, if_true, if_false, reduceIte, ne_eq, not_false_eq_true, Nat.add_eq_left, Nat.left_eq_add, kI_sI, kL_sI, kR_sI, kK_sI, kI_sL, kL_sL, kR_sL, kK_sL, kI_sIA, kL_sIA, kR_sIA, kK_sIA, kI_sLA, kL_sLA, kR_sLA, kK_sLA]
          try simp (disch := omega) only [a_0, a_1, a_L0, a_L1, a_lt, a_le, a_eq, a_sub, a_addn, nI_add, pk_mul, a_in, nI_clamp, a_eqn, a_eqn', a_eqn2, a_n12, eq_self, a_ltn, a_ltn', a_len, a_len', a_shl1, z_shr, fa_and, fa_or, a_tb, a_tb0, a_b0, a_b1, a_bi, a_lc0, a_lcle, a_lcge, a_lclt, a_lcgt, upd_at, upd_ne, updL_at, updL_ne, Nat.reduceAdd, Nat.reduceSub, Nat.reduceMul, Nat.reduceLT, Nat.reduceLeDiff, Nat.reduceEqDiff, true_and, and_true, if_true, if_false, reduceIte, ne_eq, not_false_eq_true, not_true_eq_false, true_implies, false_implies, Nat.not_lt, Nat.not_le, Nat.le_refl, Nat.add_sub_cancel, Nat.lt_irrefl, Nat.not_lt_zero, Nat.zero_le, Nat.testBit_shiftRight, Nat.add_zero, reduceCtorEq, true_or, or_true, or_false, false_or, Bool.true_eq_false, Bool.false_eq_true, Bool.not_eq_false, Bool.not_eq_true, Decidable.not_not]
          repeat (first | refine ⟨fun _ => ?_, fun c => absurd c (by omega)⟩ | refine ⟨fun c => absurd c (by omega), fun _ => ?_⟩)
          have f2 : Fr [50, 53, 54] [] h (sI (sI h1 54 W.length (nI (en3 z k j))) 54 (W.length + 1) (nI (en3 y i k))) := Fr_sI (Fr_sI g1 (by simp)) (by simp)
          have ct2 : CT (sI (sI h1 54 W.length (nI (en3 z k j))) 54 (W.length + 1) (nI (en3 y i k))) (T0 ++ [(x, i, j - i)]) := by
            unfold CT
            simp only [kI_sI, Nat.reduceAdd, Nat.reduceLeDiff, Nat.reduceEqDiff, Nat.reduceSub, Nat.zero_le, Nat.add_left_cancel_iff, true_and, and_true, if_true, if_false, reduceIte, ne_eq, not_false_eq_true, Nat.add_eq_left, Nat.left_eq_add]
            exact ct1
          have e54 : kI (sI (sI h1 54 W.length (nI (en3 z k j))) 54 (W.length + 1) (nI (en3 y i k))) 54 = upd (upd (kI h1 54) W.length (nI (en3 z k j))) (W.length + 1) (nI (en3 y i k)) := by
            simp only [kI_sI, Nat.reduceAdd, Nat.reduceLeDiff, Nat.reduceEqDiff, Nat.reduceSub, Nat.zero_le, Nat.add_left_cancel_iff, true_and, and_true, if_true, if_false, reduceIte, ne_eq, not_false_eq_true, Nat.add_eq_left, Nat.left_eq_add]
          have := ih (T0 ++ [(x, i, j - i)]) ((y, i, k) :: (z, k, j) :: W) (by simp [szT] at hs2 ⊢; omega) (by rw [tl]; omega) (fun p hp => ?_) (fun T' hT' => ?_) _ f2 ct2 (fun m hm => ?_)
          · rw [tl] at this
            exact this _ _ _ _ _
          · rcases List.mem_cons.mp hp with e | hp
            · rw [e]; exact ⟨y12, k1, show k ≤ u.length by omega, sp.2.2.1⟩
            · rcases List.mem_cons.mp hp with e | hp
              · rw [e]; exact ⟨z12, k2, q3, sp.2.2.2.1⟩
              · exact hW' p hp
          · obtain ⟨T1, T23, t1, ⟨T2, T3, t2, t3, e2⟩, e1⟩ := hT'
            have := hcomp (((x, i, j - i) :: (T1 ++ T2)) ++ T3) ⟨_, T3, TrX_node h2 sp t1 t2, t3, rfl⟩
            rw [e1, e2]
            simp only [List.append_assoc, List.cons_append, List.nil_append] at this ⊢
            exact this
          · rw [e54]
            simp only [List.length_cons] at hm ⊢
            rcases (show m = 0 ∨ m = 1 ∨ 2 ≤ m by omega) with e | e | e
            · subst e
              rw [show W.length + 1 + 1 - 1 - 0 = W.length + 1 by omega, upd_at]; rfl
            · subst e
              rw [show W.length + 1 + 1 - 1 - 1 = W.length by omega, upd_ne _ _ (by omega), upd_at]; rfl
            · obtain ⟨m', rfl⟩ := Nat.exists_eq_add_of_le e
              rw [show W.length + 1 + 1 - 1 - (2 + m') = W.length - 1 - m' by omega, upd_ne _ _ (by omega), upd_ne _ _ (by omega)]
              have := cw1 m' (by omega)
              rw [show 2 + m' = m' + 1 + 1 by omega]
              exact this
  have f0 : Fr [50, 53, 54] [] h (sI (sI h 50 5 (nI 0)) 54 0 (nI u.length)) := Fr_sI (Fr_sI (Fr_rf _ _ _) (by simp)) (by simp)
  refine sX3_growTree _ _ ?_
  refine eX3_growTree_0 ?_
  simp only [ks_nop, ks_aload_0, ks_iload_1, ks_iload_2, ks_iload_3, ks_iload, ks_istore_2, ks_istore_3, ks_istore, ks_iconst, ks_bipush, ks_iinc, ks_iadd, ks_iand, ks_ior, ks_ishl, ks_ishr, ks_dup_i, ks_dup_r, ks_icmp_eq, ks_icmp_ge, ks_icmp_gt, ks_if_le, ks_goto, ks_get0, ks_get3, ks_get1, ks_get2, ks_put0, ks_put1, ks_put2, ks_put3, ks_iald, ks_sld, ks_iast, ks_inv0, ks_inv1, ks_inv2, ks_inv4, ks_inv3, ks_inv5, ks_inv6, ks_inv7, ks_inv8, ks_iret0, kldi_0, kldl_0, klda_0, kldz_0, kst1_0, kst2_0, kldi_1, kldl_1, klda_1, kldz_1, kst1_1n, kst2_1n, kst1_1i, kst2_1i, kst1_1r, kst2_1r, kst1_1z, kst2_1z, kst1_1l, kst2_1l, kldi_2, kldl_2, klda_2, kldz_2, kst1_2n, kst2_2n, kst1_2i, kst2_2i, kst1_2r, kst2_2r, kst1_2z, kst2_2z, kst1_2l, kst2_2l, kldi_3, kldl_3, klda_3, kldz_3, kst1_3n, kst2_3n, kst1_3i, kst2_3i, kst1_3r, kst2_3r, kst1_3z, kst2_3z, kst1_3l, kst2_3l, kldi_4, kldl_4, klda_4, kldz_4, kst1_4n, kst2_4n, kst1_4i, kst2_4i, kst1_4r, kst2_4r, kst1_4z, kst2_4z, kst1_4l, kst2_4l, kldi_5, kldl_5, klda_5, kldz_5, kst1_5n, kst2_5n, kst1_5i, kst2_5i, kst1_5r, kst2_5r, kst1_5z, kst2_5z, kst1_5l, kst2_5l, kldi_6, kldl_6, klda_6, kldz_6, kst1_6n, kst2_6n, kst1_6i, kst2_6i, kst1_6r, kst2_6r, kst1_6z, kst2_6z, kst1_6l, kst2_6l, kldi_7, kldl_7, klda_7, kldz_7, kst1_7n, kst2_7n, kst1_7i, kst2_7i, kst1_7r, kst2_7r, kst1_7z, kst2_7z, kst1_7l, kst2_7l, kldi_8, kldl_8, klda_8, kldz_8, kst1_8n, kst2_8n, kst1_8i, kst2_8i, kst1_8r, kst2_8r, kst1_8z, kst2_8z, kst1_8l, kst2_8l, kpr_r, kcat_n, kcat_i, kcat_r, kcat_z, kcat_l, kargs_0, kargs_s, kret_v, kret_n, kret_x, zl_2, zl_4, zl_5, zl_8, zl_10, zl_15, zl_31, zl_39, jX3_growTree_0, bX3_growTree_0, jX3_growTree_16, bX3_growTree_16, jX3_growTree_158, bX3_growTree_158, jX3_growTree_164, bX3_growTree_164, Nat.reduceAdd, Nat.reduceLeDiff, Nat.reduceEqDiff, Nat.reduceSub, Nat.zero_le, Nat.add_left_cancel_iff, true_and, and_true, if_true, if_false, reduceIte, ne_eq, not_false_eq_true, Nat.add_eq_left, Nat.left_eq_add, kI_sI, kL_sI, kR_sI, kK_sI, kI_sL, kL_sL, kR_sL, kK_sL, kI_sIA, kL_sIA, kR_sIA, kK_sIA, kI_sLA, kL_sLA, kR_sLA, kK_sLA, wK_50 w, wR_50_0 w, wR_50_1 w, wR_50_3 w, wR_50_4 w, wK_51 w, wK_53 w, wK_54 w]
  try simp (disch := omega) only [a_0, a_1, a_L0, a_L1, a_lt, a_le, a_eq, a_sub, a_addn, nI_add, pk_mul, a_in, nI_clamp, a_eqn, a_eqn', a_eqn2, a_n12, eq_self, a_ltn, a_ltn', a_len, a_len', a_shl1, z_shr, fa_and, fa_or, a_tb, a_tb0, a_b0, a_b1, a_bi, a_lc0, a_lcle, a_lcge, a_lclt, a_lcgt, upd_at, upd_ne, updL_at, updL_ne, Nat.reduceAdd, Nat.reduceSub, Nat.reduceMul, Nat.reduceLT, Nat.reduceLeDiff, Nat.reduceEqDiff, true_and, and_true, if_true, if_false, reduceIte, ne_eq, not_false_eq_true, not_true_eq_false, true_implies, false_implies, Nat.not_lt, Nat.not_le, Nat.le_refl, Nat.add_sub_cancel, Nat.lt_irrefl, Nat.not_lt_zero, Nat.zero_le, Nat.testBit_shiftRight, Nat.add_zero, reduceCtorEq, true_or, or_true, or_false, false_or, Bool.true_eq_false, Bool.false_eq_true, Bool.not_eq_false, Bool.not_eq_true, Decidable.not_not]
  refine loop (2 * u.length - 1) [] [(0, 0, u.length)] (by simp [szT]) (by simp) (fun p hp => ?_) (fun T' hT' => ?_) _ f0 ⟨?_, fun i hi => absurd hi (by simp)⟩ (fun k hk => ?_) _ _ _ _ _
  · have : p = (0, 0, u.length) := by simpa using hp
    rw [this]
    refine ⟨hc1, h1, Nat.le_refl _, ?_⟩
    show (hs B P C (sb u 0 u.length)).testBit 0 = true
    rw [sb_all]; exact hb
  · obtain ⟨T1, T2, t1, t2, e⟩ := hT'
    have t2 : T2 = [] := t2
    rw [e, t2, List.append_nil, List.nil_append]
    exact t1
  · simp only [kI_sI, Nat.reduceAdd, Nat.reduceLeDiff, Nat.reduceEqDiff, Nat.reduceSub, Nat.zero_le, Nat.add_left_cancel_iff, true_and, and_true, if_true, if_false, reduceIte, ne_eq, not_false_eq_true, Nat.add_eq_left, Nat.left_eq_add]
    rw [upd_at]; rfl
  · have : k = 0 := by simpa using hk
    subst this
    simp only [kI_sI, Nat.reduceAdd, Nat.reduceLeDiff, Nat.reduceEqDiff, Nat.reduceSub, Nat.zero_le, Nat.add_left_cancel_iff, true_and, and_true, if_true, if_false, reduceIte, ne_eq, not_false_eq_true, Nat.add_eq_left, Nat.left_eq_add]
    show upd (kI h 54) 0 (nI u.length) 0 = _
    rw [upd_at]
    show nI u.length = nI (en3 0 0 u.length)
    unfold en3
    congr 1
    omega
end GR

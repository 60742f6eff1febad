/-! ofPart, ofContext -/
noncomputable def rSS (u : List Nat) (k : Int32) : RS := if k = -nI 1 then .inl (nI u.length) else if nI 0 ≤ k ∧ k < nI u.length then .inl (nI (u.getD k.toNatClampNeg 0)) else .inr 1
noncomputable def rOfPart (P : List (List Nat)) (x k : Int32) : RS := if nI 0 ≤ x ∧ x < nI P.length then rSS (gA P x.toNatClampNeg) k else .inr 1
noncomputable def rOfContext (C : CL) (x : Int32) (b : Bool) (k : Int32) : RS := if nI 0 ≤ x ∧ x < nI C.length then rSS (if b = true then (gC C x.toNatClampNeg).2 else (gC C x.toNatClampNeg).1) k else .inr 1
theorem i_ti {n : Nat} (hn : n < 2 ^ 31) : (nI n).toInt = (n : Int) := by
  show (Int32.ofNat n).toInt = _
  rw [Int32.toInt_ofNat', Int.bmod_eq_of_le] <;> (try simp [Int32.size]) <;> omega
theorem i_pred {x : Int32} {n : Nat} (hn : n < 2 ^ 31) : x ≤ nI n - nI 1 ↔ x < nI n := by
  have e : (nI n - nI 1).toInt = (n : Int) - 1 := by
    rw [Int32.toInt_sub, i_ti hn, i_ti (by omega)]
    rw [Int.bmod_eq_of_le] <;> omega
  rw [fa_le, fa_lt, e, i_ti hn]
  omega
theorem i_m1 {k : Int32} {n : Nat} (hn : n < 2 ^ 31) : (-nI 1 ≤ k ∧ k ≤ nI n - nI 1) ↔ (k = -nI 1 ∨ (nI 0 ≤ k ∧ k < nI n)) := by
  have em : (-nI 1 : Int32).toInt = -1 := by decide
  have e0 : (nI 0).toInt = 0 := by decide
  rw [i_pred hn, fa_le, fa_le, fa_lt, em, e0, i_ti hn]
  constructor
  · rintro ⟨h1, h2⟩
    by_cases q : k.toInt = -1
    · left
      apply Int32.toInt_inj.mp
      rw [q, em]
    · right; omega
  · rintro (q | ⟨h1, h2⟩)
    · rw [q, em]; omega
    · omega
section OP
variable {r : Nat} {h h' : KH} {Q : KO → KH → Prop} {t : List Nat} {fp : Int32} {B : GB} {nn : Nat} {P : List (List Nat)} {C : CL} {A : List (List Nat)} {ls : LSn} {lk wr : Nat} {T : TN} {sd : List Nat}
theorem rSS_h {u : List Nat} (hu : u.length < 2 ^ 31) {k : Int32} {F : RS → Prop} (H : F (rSS u k)) : (k = -nI 1 → F (.inl (nI u.length))) ∧ (∀ n, k = nI n → n < u.length → F (.inl (nI (u.getD n 0)))) ∧ (k ≠ -nI 1 → ¬ (nI 0 ≤ k ∧ k < nI u.length) → F (.inr 1)) := by
  unfold rSS at H
  refine ⟨fun q => by rw [if_pos q] at H; exact H, fun n e hn => ?_, fun q1 q2 => by rw [if_neg q1, if_neg q2] at H; exact H⟩
  subst e
  have : ¬ nI n = -nI 1 := by rw [a_eqn (by omega)]; exact not_false
  rw [if_neg this, if_pos ⟨by rw [a_le (by omega) (by omega)]; omega, by rw [a_lt (by omega) (by omega)]; omega⟩, nI_clamp (by omega)] at H
  exact H
theorem c_SS {u : List Nat} {k : Int32} (hr : 9 ≤ r) (hu : wok u) (hl : u.length ≤ 30) (H0 : ∀ v, rSS u k = .inl v → Q (.inl (some (.int v))) h) (H1 : rSS u k = .inr 1 → Q (.inr kNE) (kexc h)) : kCalls r yX11_signOrSize [.long (lN (cd u)), .int k] h Q := by
  obtain ⟨a1, a2, a3⟩ := rSS_h (k := k) (F := fun q => rSS u k = q) (show u.length < 2 ^ 31 by omega) rfl
  exact c_signOrSize hr hu hl (fun q => H0 _ (a1 q)) (fun n e hn => H0 _ (a2 n e hn)) (fun q1 q2 => H1 (a3 q1 q2))
theorem cq_ofPart {x k : Int32} (hr : 10 ≤ r) (K : CI h t fp B nn P C A ls lk wr T sd) (W : WFA t B nn P C A ls T sd) (H : ∀ h', CI h' t fp B nn P C A ls lk wr T sd → FG h h' → Q (exC ecN (rOfPart P x k)) h') : kCalls r yX11_ofPart [.ref 1, .int x, .int k] h Q := by
  have r2 : 2 ≤ r := by omega
  have K0 := K
  obtain ⟨g, a, b, c, d, N, e, s, ⟨w, hk⟩, ⟨_, X, KA, TBs, _⟩, _⟩ := K
  obtain ⟨hP, hC, _⟩ := W.1
  have h16 := hP.1
  refine sX11_ofPart _ _ _ ?_
  refine eX11_ofPart_0 ?_
  simp only [ks_nop, ks_aload_0, ks_iload_1, ks_iload_2, ks_get0, ks_get3, ks_get1, ks_get2, ks_inv0, ks_inv1, ks_inv2, ks_inv4, ks_inv3, ks_inv5, ks_inv6, ks_inv7, ks_inv8, ks_iret0, kldi_0, kldl_0, klda_0, kldz_0, kst1_0, kst2_0, kldi_1, kldl_1, klda_1, kldz_1, kst1_1n, kst2_1n, kst1_1i, kst2_1i, kst1_1r, kst2_1r, kst1_1z, kst2_1z, kst1_1l, kst2_1l, kldi_2, kldl_2, klda_2, kldz_2, kst1_2n, kst2_2n, kst1_2i, kst2_2i, kst1_2r, kst2_2r, kst1_2z, kst2_2z, kst1_2l, kst2_2l, kpr_r, kcat_n, kcat_i, kcat_r, kcat_z, kcat_l, kargs_0, kargs_s, kret_v, kret_n, kret_x, jX11_ofPart_0, bX11_ofPart_0, Nat.reduceAdd, Nat.reduceLeDiff, Nat.reduceEqDiff, Nat.reduceSub, Nat.zero_le, Nat.add_left_cancel_iff, true_and, and_true, if_true, if_false, reduceIte, ne_eq, not_false_eq_true, Nat.add_eq_left, Nat.left_eq_add, kI_sI, kL_sI, kR_sI, kK_sI, kI_sL, kL_sL, kR_sL, kK_sL, kI_sIA, kL_sIA, kR_sIA, kK_sIA, kI_sLA, kL_sLA, kR_sLA, kK_sLA, wK_1 w, wR_1_3 w, wR_1_4 w, wR_1_5 w, wR_1_6 w, wR_1_7 w, wR_1_8 w, wR_1_9 w, wR_1_10 w, wR_1_11 w, wR_1_12 w, r2]
  refine c_demandPart (by omega) w TBs (fun q => ?_) (fun q => ?_)
  · obtain ⟨n, en, hn⟩ := i_lt (by omega) q.1 q.2
    have hres : rOfPart P x k = rSS (gA P n) k := by
      unfold rOfPart
      rw [if_pos q, en, nI_clamp (by omega)]
    rw [hres] at H
    subst en
    have op := hP.2 _ (gA_mem hn)
    simp only [ks_nop, ks_aload_0, ks_iload_1, ks_iload_2, ks_get0, ks_get3, ks_get1, ks_get2, ks_inv0, ks_inv1, ks_inv2, ks_inv4, ks_inv3, ks_inv5, ks_inv6, ks_inv7, ks_inv8, ks_iret0, kldi_0, kldl_0, klda_0, kldz_0, kst1_0, kst2_0, kldi_1, kldl_1, klda_1, kldz_1, kst1_1n, kst2_1n, kst1_1i, kst2_1i, kst1_1r, kst2_1r, kst1_1z, kst2_1z, kst1_1l, kst2_1l, kldi_2, kldl_2, klda_2, kldz_2, kst1_2n, kst2_2n, kst1_2i, kst2_2i, kst1_2r, kst2_2r, kst1_2z, kst2_2z, kst1_2l, kst2_2l, kpr_r, kcat_n, kcat_i, kcat_r, kcat_z, kcat_l, kargs_0, kargs_s, kret_v, kret_n, kret_x, jX11_ofPart_0, bX11_ofPart_0, Nat.reduceAdd, Nat.reduceLeDiff, Nat.reduceEqDiff, Nat.reduceSub, Nat.zero_le, Nat.add_left_cancel_iff, true_and, and_true, if_true, if_false, reduceIte, ne_eq, not_false_eq_true, Nat.add_eq_left, Nat.left_eq_add, kI_sI, kL_sI, kR_sI, kK_sI, kI_sL, kL_sL, kR_sL, kK_sL, kI_sIA, kL_sIA, kR_sIA, kK_sIA, kI_sLA, kL_sLA, kR_sLA, kK_sLA, wK_1 w, wR_1_3 w, wR_1_4 w, wR_1_5 w, wR_1_6 w, wR_1_7 w, wR_1_8 w, wR_1_9 w, wR_1_10 w, wR_1_11 w, wR_1_12 w, wK_35 w, r2]
    refine c_partRow w TBs hP hn ?_
    simp only [ks_nop, ks_aload_0, ks_iload_1, ks_iload_2, ks_get0, ks_get3, ks_get1, ks_get2, ks_inv0, ks_inv1, ks_inv2, ks_inv4, ks_inv3, ks_inv5, ks_inv6, ks_inv7, ks_inv8, ks_iret0, kldi_0, kldl_0, klda_0, kldz_0, kst1_0, kst2_0, kldi_1, kldl_1, klda_1, kldz_1, kst1_1n, kst2_1n, kst1_1i, kst2_1i, kst1_1r, kst2_1r, kst1_1z, kst2_1z, kst1_1l, kst2_1l, kldi_2, kldl_2, klda_2, kldz_2, kst1_2n, kst2_2n, kst1_2i, kst2_2i, kst1_2r, kst2_2r, kst1_2z, kst2_2z, kst1_2l, kst2_2l, kpr_r, kcat_n, kcat_i, kcat_r, kcat_z, kcat_l, kargs_0, kargs_s, kret_v, kret_n, kret_x, jX11_ofPart_0, bX11_ofPart_0, Nat.reduceAdd, Nat.reduceLeDiff, Nat.reduceEqDiff, Nat.reduceSub, Nat.zero_le, Nat.add_left_cancel_iff, true_and, and_true, if_true, if_false, reduceIte, ne_eq, not_false_eq_true, Nat.add_eq_left, Nat.left_eq_add, kI_sI, kL_sI, kR_sI, kK_sI, kI_sL, kL_sL, kR_sL, kK_sL, kI_sIA, kL_sIA, kR_sIA, kK_sIA, kI_sLA, kL_sLA, kR_sLA, kK_sLA, r2]
    refine c_SS (by omega) op.1 (by omega) (fun v e => ?_) (fun e => ?_)
    · have := H h K0 (FG_rf h)
      rw [e] at this
      simp only [ks_nop, ks_aload_0, ks_iload_1, ks_iload_2, ks_get0, ks_get3, ks_get1, ks_get2, ks_inv0, ks_inv1, ks_inv2, ks_inv4, ks_inv3, ks_inv5, ks_inv6, ks_inv7, ks_inv8, ks_iret0, kldi_0, kldl_0, klda_0, kldz_0, kst1_0, kst2_0, kldi_1, kldl_1, klda_1, kldz_1, kst1_1n, kst2_1n, kst1_1i, kst2_1i, kst1_1r, kst2_1r, kst1_1z, kst2_1z, kst1_1l, kst2_1l, kldi_2, kldl_2, klda_2, kldz_2, kst1_2n, kst2_2n, kst1_2i, kst2_2i, kst1_2r, kst2_2r, kst1_2z, kst2_2z, kst1_2l, kst2_2l, kpr_r, kcat_n, kcat_i, kcat_r, kcat_z, kcat_l, kargs_0, kargs_s, kret_v, kret_n, kret_x, jX11_ofPart_0, bX11_ofPart_0, Nat.reduceAdd, Nat.reduceLeDiff, Nat.reduceEqDiff, Nat.reduceSub, Nat.zero_le, Nat.add_left_cancel_iff, true_and, and_true, if_true, if_false, reduceIte, ne_eq, not_false_eq_true, Nat.add_eq_left, Nat.left_eq_add, kI_sI, kL_sI, kR_sI, kK_sI, kI_sL, kL_sL, kR_sL, kK_sL, kI_sIA, kL_sIA, kR_sIA, kK_sIA, kI_sLA, kL_sLA, kR_sLA, kK_sLA]
      exact ⟨False.elim, this⟩
    · have := H (kexc h) (CI_exc K0) (FG_exc h)
      rw [e] at this
      simp only [ks_nop, ks_aload_0, ks_iload_1, ks_iload_2, ks_get0, ks_get3, ks_get1, ks_get2, ks_inv0, ks_inv1, ks_inv2, ks_inv4, ks_inv3, ks_inv5, ks_inv6, ks_inv7, ks_inv8, ks_iret0, kldi_0, kldl_0, klda_0, kldz_0, kst1_0, kst2_0, kldi_1, kldl_1, klda_1, kldz_1, kst1_1n, kst2_1n, kst1_1i, kst2_1i, kst1_1r, kst2_1r, kst1_1z, kst2_1z, kst1_1l, kst2_1l, kldi_2, kldl_2, klda_2, kldz_2, kst1_2n, kst2_2n, kst1_2i, kst2_2i, kst1_2r, kst2_2r, kst1_2z, kst2_2z, kst1_2l, kst2_2l, kpr_r, kcat_n, kcat_i, kcat_r, kcat_z, kcat_l, kargs_0, kargs_s, kret_v, kret_n, kret_x, jX11_ofPart_0, bX11_ofPart_0, Nat.reduceAdd, Nat.reduceLeDiff, Nat.reduceEqDiff, Nat.reduceSub, Nat.zero_le, Nat.add_left_cancel_iff, true_and, and_true, if_true, if_false, reduceIte, ne_eq, not_false_eq_true, Nat.add_eq_left, Nat.left_eq_add, kI_sI, kL_sI, kR_sI, kK_sI, kI_sL, kL_sL, kR_sL, kK_sL, kI_sIA, kL_sIA, kR_sIA, kK_sIA, kI_sLA, kL_sLA, kR_sLA, kK_sLA]
      exact this
  · have := H (kexc h) (CI_exc K0) (FG_exc h)
    unfold rOfPart at this
    rw [if_neg q] at this
    simp only [ks_nop, ks_aload_0, ks_iload_1, ks_iload_2, ks_get0, ks_get3, ks_get1, ks_get2, ks_inv0, ks_inv1, ks_inv2, ks_inv4, ks_inv3, ks_inv5, ks_inv6, ks_inv7, ks_inv8, ks_iret0, kldi_0, kldl_0, klda_0, kldz_0, kst1_0, kst2_0, kldi_1, kldl_1, klda_1, kldz_1, kst1_1n, kst2_1n, kst1_1i, kst2_1i, kst1_1r, kst2_1r, kst1_1z, kst2_1z, kst1_1l, kst2_1l, kldi_2, kldl_2, klda_2, kldz_2, kst1_2n, kst2_2n, kst1_2i, kst2_2i, kst1_2r, kst2_2r, kst1_2z, kst2_2z, kst1_2l, kst2_2l, kpr_r, kcat_n, kcat_i, kcat_r, kcat_z, kcat_l, kargs_0, kargs_s, kret_v, kret_n, kret_x, jX11_ofPart_0, bX11_ofPart_0, Nat.reduceAdd, Nat.reduceLeDiff, Nat.reduceEqDiff, Nat.reduceSub, Nat.zero_le, Nat.add_left_cancel_iff, true_and, and_true, if_true, if_false, reduceIte, ne_eq, not_false_eq_true, Nat.add_eq_left, Nat.left_eq_add, kI_sI, kL_sI, kR_sI, kK_sI, kI_sL, kL_sL, kR_sL, kK_sL, kI_sIA, kL_sIA, kR_sIA, kK_sIA, kI_sLA, kL_sLA, kR_sLA, kK_sLA]
    exact this
theorem cq_ofContext {x k : Int32} {bb : Bool} (hr : 10 ≤ r) (K : CI h t fp B nn P C A ls lk wr T sd) (W : WFA t B nn P C A ls T sd) (H : ∀ h', CI h' t fp B nn P C A ls lk wr T sd → FG h h' → Q (exC ecN (rOfContext C x bb k)) h') : kCalls r yX11_ofContext [.ref 1, .int x, .int (nI bb.toNat), .int k] h Q := by
  have r2 : 2 ≤ r := by omega
  have K0 := K
  obtain ⟨g, a, b, c, d, N, e, s, ⟨w, hk⟩, ⟨_, X, KA, TBs, _⟩, _⟩ := K
  obtain ⟨hP, hC, _⟩ := W.1
  have h12 := hC.1
  refine sX11_ofContext _ _ _ _ ?_
  refine eX11_ofContext_0 ?_
  simp only [ks_nop, ks_aload_0, ks_iload_1, ks_iload_2, ks_iload_3, ks_if_eq, ks_goto, ks_get0, ks_get3, ks_get1, ks_get2, ks_inv0, ks_inv1, ks_inv2, ks_inv4, ks_inv3, ks_inv5, ks_inv6, ks_inv7, ks_inv8, ks_iret0, kldi_0, kldl_0, klda_0, kldz_0, kst1_0, kst2_0, kldi_1, kldl_1, klda_1, kldz_1, kst1_1n, kst2_1n, kst1_1i, kst2_1i, kst1_1r, kst2_1r, kst1_1z, kst2_1z, kst1_1l, kst2_1l, kldi_2, kldl_2, klda_2, kldz_2, kst1_2n, kst2_2n, kst1_2i, kst2_2i, kst1_2r, kst2_2r, kst1_2z, kst2_2z, kst1_2l, kst2_2l, kldi_3, kldl_3, klda_3, kldz_3, kst1_3n, kst2_3n, kst1_3i, kst2_3i, kst1_3r, kst2_3r, kst1_3z, kst2_3z, kst1_3l, kst2_3l, kpr_r, kcat_n, kcat_i, kcat_r, kcat_z, kcat_l, kargs_0, kargs_s, kret_v, kret_n, kret_x, jX11_ofContext_0, bX11_ofContext_0, jX11_ofContext_20, bX11_ofContext_20, jX11_ofContext_28, bX11_ofContext_28, Nat.reduceAdd, Nat.reduceLeDiff, Nat.reduceEqDiff, Nat.reduceSub, Nat.zero_le, Nat.add_left_cancel_iff, true_and, and_true, if_true, if_false, reduceIte, ne_eq, not_false_eq_true, Nat.add_eq_left, Nat.left_eq_add, kI_sI, kL_sI, kR_sI, kK_sI, kI_sL, kL_sL, kR_sL, kK_sL, kI_sIA, kL_sIA, kR_sIA, kK_sIA, kI_sLA, kL_sLA, kR_sLA, kK_sLA, wK_1 w, wR_1_3 w, wR_1_4 w, wR_1_5 w, wR_1_6 w, wR_1_7 w, wR_1_8 w, wR_1_9 w, wR_1_10 w, wR_1_11 w, wR_1_12 w, r2]
  refine c_demandContext (by omega) w TBs (fun q => ?_) (fun q => ?_)
  · obtain ⟨n, en, hn⟩ := i_lt (by omega) q.1 q.2
    have hres : rOfContext C x bb k = rSS (if bb = true then (gC C n).2 else (gC C n).1) k := by
      unfold rOfContext
      rw [if_pos q, en, nI_clamp (by omega)]
    rw [hres] at H
    subst en
    have oc := hC.2 _ (gC_mem hn)
    have fin : ∀ u, u = (if bb = true then (gC C n).2 else (gC C n).1) → kRun r mX11_ofContext 28 [some (.ref 1), some (.int (nI n)), some (.int (nI bb.toNat)), some (.int k)] [.long (lN (cd u))] h Q := by
      intro u eu
      rw [← eu] at H
      have wu : wok u ∧ u.length ≤ 30 := by
        rw [eu]
        cases bb
        · exact ⟨oc.1, by simp; omega⟩
        · exact ⟨oc.2.1, by simp; omega⟩
      refine eX11_ofContext_28 ?_
      simp only [ks_nop, ks_aload_0, ks_iload_1, ks_iload_2, ks_iload_3, ks_if_eq, ks_goto, ks_get0, ks_get3, ks_get1, ks_get2, ks_inv0, ks_inv1, ks_inv2, ks_inv4, ks_inv3, ks_inv5, ks_inv6, ks_inv7, ks_inv8, ks_iret0, kldi_0, kldl_0, klda_0, kldz_0, kst1_0, kst2_0, kldi_1, kldl_1, klda_1, kldz_1, kst1_1n, kst2_1n, kst1_1i, kst2_1i, kst1_1r, kst2_1r, kst1_1z, kst2_1z, kst1_1l, kst2_1l, kldi_2, kldl_2, klda_2, kldz_2, kst1_2n, kst2_2n, kst1_2i, kst2_2i, kst1_2r, kst2_2r, kst1_2z, kst2_2z, kst1_2l, kst2_2l, kldi_3, kldl_3, klda_3, kldz_3, kst1_3n, kst2_3n, kst1_3i, kst2_3i, kst1_3r, kst2_3r, kst1_3z, kst2_3z, kst1_3l, kst2_3l, kpr_r, kcat_n, kcat_i, kcat_r, kcat_z, kcat_l, kargs_0, kargs_s, kret_v, kret_n, kret_x, jX11_ofContext_0, bX11_ofContext_0, jX11_ofContext_20, bX11_ofContext_20, jX11_ofContext_28, bX11_ofContext_28, Nat.reduceAdd, Nat.reduceLeDiff, Nat.reduceEqDiff, Nat.reduceSub, Nat.zero_le, Nat.add_left_cancel_iff, true_and, and_true, if_true, if_false, reduceIte, ne_eq, not_false_eq_true, Nat.add_eq_left, Nat.left_eq_add, kI_sI, kL_sI, kR_sI, kK_sI, kI_sL, kL_sL, kR_sL, kK_sL, kI_sIA, kL_sIA, kR_sIA, kK_sIA, kI_sLA, kL_sLA, kR_sLA, kK_sLA, r2]
      refine c_SS (by omega) wu.1 wu.2 (fun v e => ?_) (fun e => ?_)
      · have := H h K0 (FG_rf h)
        rw [e] at this
        simp only [ks_nop, ks_aload_0, ks_iload_1, ks_iload_2, ks_iload_3, ks_if_eq, ks_goto, ks_get0, ks_get3, ks_get1, ks_get2, ks_inv0, ks_inv1, ks_inv2, ks_inv4, ks_inv3, ks_inv5, ks_inv6, ks_inv7, ks_inv8, ks_iret0, kldi_0, kldl_0, klda_0, kldz_0, kst1_0, kst2_0, kldi_1, kldl_1, klda_1, kldz_1, kst1_1n, kst2_1n, kst1_1i, kst2_1i, kst1_1r, kst2_1r, kst1_1z, kst2_1z, kst1_1l, kst2_1l, kldi_2, kldl_2, klda_2, kldz_2, kst1_2n, kst2_2n, kst1_2i, kst2_2i, kst1_2r, kst2_2r, kst1_2z, kst2_2z, kst1_2l, kst2_2l, kldi_3, kldl_3, klda_3, kldz_3, kst1_3n, kst2_3n, kst1_3i, kst2_3i, kst1_3r, kst2_3r, kst1_3z, kst2_3z, kst1_3l, kst2_3l, kpr_r, kcat_n, kcat_i, kcat_r, kcat_z, kcat_l, kargs_0, kargs_s, kret_v, kret_n, kret_x, jX11_ofContext_0, bX11_ofContext_0, jX11_ofContext_20, bX11_ofContext_20, jX11_ofContext_28, bX11_ofContext_28, Nat.reduceAdd, Nat.reduceLeDiff, Nat.reduceEqDiff, Nat.reduceSub, Nat.zero_le, Nat.add_left_cancel_iff, true_and, and_true, if_true, if_false, reduceIte, ne_eq, not_false_eq_true, Nat.add_eq_left, Nat.left_eq_add, kI_sI, kL_sI, kR_sI, kK_sI, kI_sL, kL_sL, kR_sL, kK_sL, kI_sIA, kL_sIA, kR_sIA, kK_sIA, kI_sLA, kL_sLA, kR_sLA, kK_sLA]
        exact ⟨False.elim, this⟩
      · have := H (kexc h) (CI_exc K0) (FG_exc h)
        rw [e] at this
        simp only [ks_nop, ks_aload_0, ks_iload_1, ks_iload_2, ks_iload_3, ks_if_eq, ks_goto, ks_get0, ks_get3, ks_get1, ks_get2, ks_inv0, ks_inv1, ks_inv2, ks_inv4, ks_inv3, ks_inv5, ks_inv6, ks_inv7, ks_inv8, ks_iret0, kldi_0, kldl_0, klda_0, kldz_0, kst1_0, kst2_0, kldi_1, kldl_1, klda_1, kldz_1, kst1_1n, kst2_1n, kst1_1i, kst2_1i, kst1_1r, kst2_1r, kst1_1z, kst2_1z, kst1_1l, kst2_1l, kldi_2, kldl_2, klda_2, kldz_2, kst1_2n, kst2_2n, kst1_2i, kst2_2i, kst1_2r, kst2_2r, kst1_2z, kst2_2z, kst1_2l, kst2_2l, kldi_3, kldl_3, klda_3, kldz_3, kst1_3n, kst2_3n, kst1_3i, kst2_3i, kst1_3r, kst2_3r, kst1_3z, kst2_3z, kst1_3l, kst2_3l, kpr_r, kcat_n, kcat_i, kcat_r, kcat_z, kcat_l, kargs_0, kargs_s, kret_v, kret_n, kret_x, jX11_ofContext_0, bX11_ofContext_0, jX11_ofContext_20, bX11_ofContext_20, jX11_ofContext_28, bX11_ofContext_28, Nat.reduceAdd, Nat.reduceLeDiff, Nat.reduceEqDiff, Nat.reduceSub, Nat.zero_le, Nat.add_left_cancel_iff, true_and, and_true, if_true, if_false, reduceIte, ne_eq, not_false_eq_true, Nat.add_eq_left, Nat.left_eq_add, kI_sI, kL_sI, kR_sI, kK_sI, kI_sL, kL_sL, kR_sL, kK_sL, kI_sIA, kL_sIA, kR_sIA, kK_sIA, kI_sLA, kL_sLA, kR_sLA, kK_sLA]
        exact this
    cases bb
    · simp only [ks_nop, ks_aload_0, ks_iload_1, ks_iload_2, ks_iload_3, ks_if_eq, ks_goto, ks_get0, ks_get3, ks_get1, ks_get2, ks_inv0, ks_inv1, ks_inv2, ks_inv4, ks_inv3, ks_inv5, ks_inv6, ks_inv7, ks_inv8, ks_iret0, kldi_0, kldl_0, klda_0, kldz_0, kst1_0, kst2_0, kldi_1, kldl_1, klda_1, kldz_1, kst1_1n, kst2_1n, kst1_1i, kst2_1i, kst1_1r, kst2_1r, kst1_1z, kst2_1z, kst1_1l, kst2_1l, kldi_2, kldl_2, klda_2, kldz_2, kst1_2n, kst2_2n, kst1_2i, kst2_2i, kst1_2r, kst2_2r, kst1_2z, kst2_2z, kst1_2l, kst2_2l, kldi_3, kldl_3, klda_3, kldz_3, kst1_3n, kst2_3n, kst1_3i, kst2_3i, kst1_3r, kst2_3r, kst1_3z, kst2_3z, kst1_3l, kst2_3l, kpr_r, kcat_n, kcat_i, kcat_r, kcat_z, kcat_l, kargs_0, kargs_s, kret_v, kret_n, kret_x, jX11_ofContext_0, bX11_ofContext_0, jX11_ofContext_20, bX11_ofContext_20, jX11_ofContext_28, bX11_ofContext_28, Nat.reduceAdd, Nat.reduceLeDiff, Nat.reduceEqDiff, Nat.reduceSub, Nat.zero_le, Nat.add_left_cancel_iff, true_and, and_true, if_true, if_false, reduceIte, ne_eq, not_false_eq_true, Nat.add_eq_left, Nat.left_eq_add, kI_sI, kL_sI, kR_sI, kK_sI, kI_sL, kL_sL, kR_sL, kK_sL, kI_sIA, kL_sIA, kR_sIA, kK_sIA, kI_sLA, kL_sLA, kR_sLA, kK_sLA, wK_1 w, wR_1_3 w, wR_1_4 w, wR_1_5 w, wR_1_6 w, wR_1_7 w, wR_1_8 w, wR_1_9 w, wR_1_10 w, wR_1_11 w, wR_1_12 w, wK_35 w, r2, Bool.toNat_false]
      try simp (disch := omega) only [a_0, a_1, a_L0, a_L1, a_lt, a_le, a_eq, a_sub, a_addn, nI_add, pk_mul, a_in, nI_clamp, a_eqn, a_eqn', a_eqn2, a_n12, eq_self, a_ltn, a_ltn', a_len, a_len', a_shl1, z_shr, fa_and, fa_or, a_tb, a_tb0, a_b0, a_b1, a_bi, a_lc0, a_lcle, a_lcge, a_lclt, a_lcgt, upd_at, upd_ne, updL_at, updL_ne, Nat.reduceAdd, Nat.reduceSub, Nat.reduceMul, Nat.reduceLT, Nat.reduceLeDiff, Nat.reduceEqDiff, true_and, and_true, if_true, if_false, reduceIte, ne_eq, not_false_eq_true, not_true_eq_false, true_implies, false_implies, Nat.not_lt, Nat.not_le, Nat.le_refl, Nat.add_sub_cancel, Nat.lt_irrefl, Nat.not_lt_zero, Nat.zero_le, Nat.testBit_shiftRight, Nat.add_zero, reduceCtorEq, true_or, or_true, or_false, false_or, Bool.true_eq_false, Bool.false_eq_true, Bool.not_eq_false, Bool.not_eq_true, Decidable.not_not]
      repeat (first | refine ⟨fun _ => ?_, fun c => absurd c (by omega)⟩ | refine ⟨fun c => absurd c (by omega), fun _ => ?_⟩)
      refine c_Tleft w TBs hC hn ?_
      simp only [ks_nop, ks_aload_0, ks_iload_1, ks_iload_2, ks_iload_3, ks_if_eq, ks_goto, ks_get0, ks_get3, ks_get1, ks_get2, ks_inv0, ks_inv1, ks_inv2, ks_inv4, ks_inv3, ks_inv5, ks_inv6, ks_inv7, ks_inv8, ks_iret0, kldi_0, kldl_0, klda_0, kldz_0, kst1_0, kst2_0, kldi_1, kldl_1, klda_1, kldz_1, kst1_1n, kst2_1n, kst1_1i, kst2_1i, kst1_1r, kst2_1r, kst1_1z, kst2_1z, kst1_1l, kst2_1l, kldi_2, kldl_2, klda_2, kldz_2, kst1_2n, kst2_2n, kst1_2i, kst2_2i, kst1_2r, kst2_2r, kst1_2z, kst2_2z, kst1_2l, kst2_2l, kldi_3, kldl_3, klda_3, kldz_3, kst1_3n, kst2_3n, kst1_3i, kst2_3i, kst1_3r, kst2_3r, kst1_3z, kst2_3z, kst1_3l, kst2_3l, kpr_r, kcat_n, kcat_i, kcat_r, kcat_z, kcat_l, kargs_0, kargs_s, kret_v, kret_n, kret_x, jX11_ofContext_0, bX11_ofContext_0, jX11_ofContext_20, bX11_ofContext_20, jX11_ofContext_28, bX11_ofContext_28, Nat.reduceAdd, Nat.reduceLeDiff, Nat.reduceEqDiff, Nat.reduceSub, Nat.zero_le, Nat.add_left_cancel_iff, true_and, and_true, if_true, if_false, reduceIte, ne_eq, not_false_eq_true, Nat.add_eq_left, Nat.left_eq_add, kI_sI, kL_sI, kR_sI, kK_sI, kI_sL, kL_sL, kR_sL, kK_sL, kI_sIA, kL_sIA, kR_sIA, kK_sIA, kI_sLA, kL_sLA, kR_sLA, kK_sLA]
      exact fin _ rfl
    · simp only [ks_nop, ks_aload_0, ks_iload_1, ks_iload_2, ks_iload_3, ks_if_eq, ks_goto, ks_get0, ks_get3, ks_get1, ks_get2, ks_inv0, ks_inv1, ks_inv2, ks_inv4, ks_inv3, ks_inv5, ks_inv6, ks_inv7, ks_inv8, ks_iret0, kldi_0, kldl_0, klda_0, kldz_0, kst1_0, kst2_0, kldi_1, kldl_1, klda_1, kldz_1, kst1_1n, kst2_1n, kst1_1i, kst2_1i, kst1_1r, kst2_1r, kst1_1z, kst2_1z, kst1_1l, kst2_1l, kldi_2, kldl_2, klda_2, kldz_2, kst1_2n, kst2_2n, kst1_2i, kst2_2i, kst1_2r, kst2_2r, kst1_2z, kst2_2z, kst1_2l, kst2_2l, kldi_3, kldl_3, klda_3, kldz_3, kst1_3n, kst2_3n, kst1_3i, kst2_3i, kst1_3r, kst2_3r, kst1_3z, kst2_3z, kst1_3l, kst2_3l, kpr_r, kcat_n, kcat_i, kcat_r, kcat_z, kcat_l, kargs_0, kargs_s, kret_v, kret_n, kret_x, jX11_ofContext_0, bX11_ofContext_0, jX11_ofContext_20, bX11_ofContext_20, jX11_ofContext_28, bX11_ofContext_28, Nat.reduceAdd, Nat.reduceLeDiff, Nat.reduceEqDiff, Nat.reduceSub, Nat.zero_le, Nat.add_left_cancel_iff, true_and, and_true, if_true, if_false, reduceIte, ne_eq, not_false_eq_true, Nat.add_eq_left, Nat.left_eq_add, kI_sI, kL_sI, kR_sI, kK_sI, kI_sL, kL_sL, kR_sL, kK_sL, kI_sIA, kL_sIA, kR_sIA, kK_sIA, kI_sLA, kL_sLA, kR_sLA, kK_sLA, wK_1 w, wR_1_3 w, wR_1_4 w, wR_1_5 w, wR_1_6 w, wR_1_7 w, wR_1_8 w, wR_1_9 w, wR_1_10 w, wR_1_11 w, wR_1_12 w, wK_35 w, r2, Bool.toNat_true]
      try simp (disch := omega) only [a_0, a_1, a_L0, a_L1, a_lt, a_le, a_eq, a_sub, a_addn, nI_add, pk_mul, a_in, nI_clamp, a_eqn, a_eqn', a_eqn2, a_n12, eq_self, a_ltn, a_ltn', a_len, a_len', a_shl1, z_shr, fa_and, fa_or, a_tb, a_tb0, a_b0, a_b1, a_bi, a_lc0, a_lcle, a_lcge, a_lclt, a_lcgt, upd_at, upd_ne, updL_at, updL_ne, Nat.reduceAdd, Nat.reduceSub, Nat.reduceMul, Nat.reduceLT, Nat.reduceLeDiff, Nat.reduceEqDiff, true_and, and_true, if_true, if_false, reduceIte, ne_eq, not_false_eq_true, not_true_eq_false, true_implies, false_implies, Nat.not_lt, Nat.not_le, Nat.le_refl, Nat.add_sub_cancel, Nat.lt_irrefl, Nat.not_lt_zero, Nat.zero_le, Nat.testBit_shiftRight, Nat.add_zero, reduceCtorEq, true_or, or_true, or_false, false_or, Bool.true_eq_false, Bool.false_eq_true, Bool.not_eq_false, Bool.not_eq_true, Decidable.not_not]
      repeat (first | refine ⟨fun _ => ?_, fun c => absurd c (by omega)⟩ | refine ⟨fun c => absurd c (by omega), fun _ => ?_⟩)
      refine c_Tright w TBs hC hn ?_
      simp only [ks_nop, ks_aload_0, ks_iload_1, ks_iload_2, ks_iload_3, ks_if_eq, ks_goto, ks_get0, ks_get3, ks_get1, ks_get2, ks_inv0, ks_inv1, ks_inv2, ks_inv4, ks_inv3, ks_inv5, ks_inv6, ks_inv7, ks_inv8, ks_iret0, kldi_0, kldl_0, klda_0, kldz_0, kst1_0, kst2_0, kldi_1, kldl_1, klda_1, kldz_1, kst1_1n, kst2_1n, kst1_1i, kst2_1i, kst1_1r, kst2_1r, kst1_1z, kst2_1z, kst1_1l, kst2_1l, kldi_2, kldl_2, klda_2, kldz_2, kst1_2n, kst2_2n, kst1_2i, kst2_2i, kst1_2r, kst2_2r, kst1_2z, kst2_2z, kst1_2l, kst2_2l, kldi_3, kldl_3, klda_3, kldz_3, kst1_3n, kst2_3n, kst1_3i, kst2_3i, kst1_3r, kst2_3r, kst1_3z, kst2_3z, kst1_3l, kst2_3l, kpr_r, kcat_n, kcat_i, kcat_r, kcat_z, kcat_l, kargs_0, kargs_s, kret_v, kret_n, kret_x, jX11_ofContext_0, bX11_ofContext_0, jX11_ofContext_20, bX11_ofContext_20, jX11_ofContext_28, bX11_ofContext_28, Nat.reduceAdd, Nat.reduceLeDiff, Nat.reduceEqDiff, Nat.reduceSub, Nat.zero_le, Nat.add_left_cancel_iff, true_and, and_true, if_true, if_false, reduceIte, ne_eq, not_false_eq_true, Nat.add_eq_left, Nat.left_eq_add, kI_sI, kL_sI, kR_sI, kK_sI, kI_sL, kL_sL, kR_sL, kK_sL, kI_sIA, kL_sIA, kR_sIA, kK_sIA, kI_sLA, kL_sLA, kR_sLA, kK_sLA]
      exact fin _ rfl
  · have := H (kexc h) (CI_exc K0) (FG_exc h)
    unfold rOfContext at this
    rw [if_neg q] at this
    simp only [ks_nop, ks_aload_0, ks_iload_1, ks_iload_2, ks_iload_3, ks_if_eq, ks_goto, ks_get0, ks_get3, ks_get1, ks_get2, ks_inv0, ks_inv1, ks_inv2, ks_inv4, ks_inv3, ks_inv5, ks_inv6, ks_inv7, ks_inv8, ks_iret0, kldi_0, kldl_0, klda_0, kldz_0, kst1_0, kst2_0, kldi_1, kldl_1, klda_1, kldz_1, kst1_1n, kst2_1n, kst1_1i, kst2_1i, kst1_1r, kst2_1r, kst1_1z, kst2_1z, kst1_1l, kst2_1l, kldi_2, kldl_2, klda_2, kldz_2, kst1_2n, kst2_2n, kst1_2i, kst2_2i, kst1_2r, kst2_2r, kst1_2z, kst2_2z, kst1_2l, kst2_2l, kldi_3, kldl_3, klda_3, kldz_3, kst1_3n, kst2_3n, kst1_3i, kst2_3i, kst1_3r, kst2_3r, kst1_3z, kst2_3z, kst1_3l, kst2_3l, kpr_r, kcat_n, kcat_i, kcat_r, kcat_z, kcat_l, kargs_0, kargs_s, kret_v, kret_n, kret_x, jX11_ofContext_0, bX11_ofContext_0, jX11_ofContext_20, bX11_ofContext_20, jX11_ofContext_28, bX11_ofContext_28, Nat.reduceAdd, Nat.reduceLeDiff, Nat.reduceEqDiff, Nat.reduceSub, Nat.zero_le, Nat.add_left_cancel_iff, true_and, and_true, if_true, if_false, reduceIte, ne_eq, not_false_eq_true, Nat.add_eq_left, Nat.left_eq_add, kI_sI, kL_sI, kR_sI, kK_sI, kI_sL, kL_sL, kR_sL, kK_sL, kI_sIA, kL_sIA, kR_sIA, kK_sIA, kI_sLA, kL_sLA, kR_sLA, kK_sLA]
    exact this
end OP

/-! teach of the class -/
theorem kR_q (h : KH) (a j v k : Nat) : kR (sR h a j v) a k = if k = j then v else kR h a k := by
  rw [kR_sR, if_pos rfl]; rfl
theorem kR_ne (h : KH) (a j v c : Nat) (hc : c ≠ a) : kR (sR h a j v) c = kR h c := by rw [kR_sR, if_neg hc]
theorem rho_up {N n : Nat} (h : N < n) (hn : n = 0 ∨ n = 6 ∨ n = 126 ∨ n = 1092 ∨ n = 5460) : rho N + 1 ≤ rho n ∧ n ≤ 5460 := by
  refine ⟨?_, by omega⟩
  unfold rho
  repeat' split
  all_goals omega
theorem fFr_v {k : Nat} (hk : k ≤ 4) : fFr k 7 = 0 ∨ fFr k 7 = 6 ∨ fFr k 7 = 126 ∨ fFr k 7 = 1092 ∨ fFr k 7 = 5460 := by
  rcases (show k = 0 ∨ k = 1 ∨ k = 2 ∨ k = 3 ∨ k = 4 by omega) with rfl | rfl | rfl | rfl | rfl <;> decide
theorem FG_t4 {h h' : KH} {N N' n : Nat} (f : F0C h h') (hN : NNs h = N) (hN' : NNs h' = N') (g : G4 N N' n h h') (hn : n = 0 ∨ n = 6 ∨ n = 126 ∨ n = 1092 ∨ n = 5460) : FG h h' := by
  refine ⟨f, ?_, ?_⟩
  · rcases g with ⟨_, g2, _⟩ | ⟨_, _, g2, _⟩ <;> omega
  · rw [hN, hN']
    rcases g with ⟨g1, _, g3⟩ | ⟨g0, g1, _, g3⟩
    · rw [g1]; omega
    · have := rho_up g0 hn
      rw [g1]; omega
theorem FG_tl {h h1 h2 : KH} (p : FG h h1) (q : FC h1 h2) : FG h h2 := by
  obtain ⟨p0, p1, p2⟩ := p
  obtain ⟨q0, q1, q2, q3⟩ := q
  exact ⟨F0C_tr p0 q0, by omega, by rw [q3]; omega⟩
section ST
variable {r : Nat} {h h' : KH} {Q : KO → KH → Prop} {t : List Nat} {fp fp' : Int32} {B : GB} {nn : Nat} {P : List (List Nat)} {C : CL} {A : List (List Nat)} {ls : LSn} {lk wr : Nat} {T : TN} {sd : List Nat} {g a b c d N e s : Nat}
theorem CIx_flt {g' : Nat} (f : Fr (1 :: 26 :: gS g') (gT g') h h') (hg' : isG g') (dS : ∀ x ∈ gS g, x ∉ gS g') (dT : ∀ x ∈ gT g, x ∉ gT g') (eg : 16 - g = g') (z' : Zg h' g') (e1 : kI h' 1 2 = fp') (e26 : kI h' 26 1 = nI 0) (K : CIx h t fp B nn P C A ls lk wr T sd g a b c d N e s) : CIx h' [] fp' B nn P C A ls lk wr T sd g a b c d N e s := by
  obtain ⟨⟨w, hk⟩, k1, k2, k3, ⟨k4, k5, k6⟩, k7, k8, k9, k10, ⟨y1, y2, y3, y4⟩, ⟨p1, p2, p3, p4, p5, p6⟩⟩ := K
  obtain ⟨⟨hg, G, h10, h283⟩, X, KA, TBs, Tb, RUs, NUs, Z, KUs⟩ := k1
  have g25 := gS_25 hg
  have g25' := gS_25 hg'
  have p2' := p2
  unfold isD at p2'
  have nS : ∀ x, x ≠ 26 → 25 < x → x ∉ 1 :: 26 :: gS g' := by
    intro x h1 h2 q
    rcases List.mem_cons.mp q with z | z
    · omega
    · rcases List.mem_cons.mp z with z | z
      · omega
      · have := g25'.1 x z; omega
  have nT : ∀ x, 25 < x → x ∉ gT g' := fun x h2 q => by have := g25'.2 x q; omega
  have eN := Fr_N f
  have eR := Fr_R f
  have eK := Fr_K f
  have GQ' : GQ h' g B nn := GQ_fr f (fun x hx q => by
    have := g25.1 x hx
    rcases List.mem_cons.mp q with z | z
    · omega
    · rcases List.mem_cons.mp z with z | z
      · omega
      · exact dS x hx z) dT G
  have zg : Zg h g → Zg h' g := by
    intro q
    have m6 : g + 6 ∈ gS g := by simp [gS]
    have m8 : g + 8 ∈ gT g := by simp [gT]
    have m10 : g + 10 ∈ gT g := by simp [gT]
    unfold Zg at q ⊢
    rw [f.2.1 (g + 6) (fun z => by
      have := g25.1 _ m6
      rcases List.mem_cons.mp z with z | z
      · omega
      · rcases List.mem_cons.mp z with z | z
        · omega
        · exact dS _ m6 z), f.2.2 (g + 8) (dT _ m8), f.2.2 (g + 10) (dT _ m10)]
    exact q
  refine ⟨⟨Fr_W f w, by rw [eN]; exact hk⟩, ⟨⟨hg, GQ', by rw [eR]; exact h10, by rw [eR]; exact h283⟩, TCx_fr f (nS _ (by omega) (by omega)) (nT _ (by omega)) (nT _ (by omega)) X, AC_fr f (nS _ (by omega) (by omega)) (nS _ (by omega) (by omega)) (nT _ (by omega)) KA, TB_fr f (nS _ (by omega) (by omega)) (nT _ (by omega)) (nT _ (by omega)) (nT _ (by omega)) TBs, TBb_fr f (nS _ (by omega) (by omega)) (nS _ (by omega) (by omega)) (nS _ (by omega) (by omega)) Tb, RU_fr f (nS _ (by omega) (by omega)) (nS _ (by omega) (by omega)) (nS _ (by omega) (by omega)) (nS _ (by omega) (by omega)) RUs, NU_fr f (nS _ (by omega) (by omega)) (nS _ (by omega) (by omega)) NUs, Z44_fr f (nS _ (by omega) (by omega)) Z, KU_fr f (nS _ (by omega) (by omega)) (nS _ (by omega) (by omega)) (nS _ (by omega) (by omega)) KUs⟩, CS_fr f (fun x hx => ?_) (fun x hx => ?_) k2, by unfold DYN at k3 ⊢; rw [eN]; exact k3, ⟨by rw [eR]; exact k4, ?_, ?_⟩, ⟨e26, fun i hi => absurd hi (by simp)⟩, e1, CLo_eq (f.2.1 62 (nS _ (by omega) (by omega))) (f.2.1 63 (nS _ (by omega) (by omega))) (f.2.2 62 (nT _ (by omega))) k9, ?_, ⟨by rw [eR]; exact y1, by rw [eK]; exact y2, y3, by rw [eN]; exact y4⟩, ⟨by rw [eR]; exact p1, p2, by rw [eN]; exact p3, by rw [eK]; exact p4, by rw [f.2.1 64 (nS _ (by omega) (by omega))]; exact p5, by rw [f.2.1 s (nS _ (by omega) (by omega))]; exact p6⟩⟩
  · rcases List.mem_cons.mp hx with z | z
    · rw [z]; decide
    · rcases List.mem_cons.mp z with z | z
      · rw [z]; decide
      · have := g25'.1 x z
        unfold okS okT; simp; omega
  · have := g25'.2 x hx
    unfold okT; simp; omega
  · rcases hg with rfl | rfl
    · exact zg k5
    · rw [← eg] at z'; exact z'
  · rcases hg with rfl | rfl
    · rw [← eg] at z'; exact z'
    · exact zg k6
  · unfold CT at k10 ⊢; rw [f.2.1 50 (nS _ (by omega) (by omega)), f.2.1 53 (nS _ (by omega) (by omega))]; exact k10
theorem cq_teach {x : Int32} (hr : 14 ≤ r) (K : CI h t fp B nn P C A ls lk wr T sd) (W : WFA t B nn P C A ls T sd) (H : ∀ h', CJ h' (tcS x (t, fp, B, nn, P, C, A, ls, lk, wr, T, sd)) → FG h h' → Q (exC ecA (rTeach t x)) h') : kCalls r yX11_teach [.ref 1, .int x] h Q := by
  have r2 : 2 ≤ r := by omega
  have K0 := K
  obtain ⟨g, a, b, c, d, N, e, s, Kx⟩ := K
  obtain ⟨⟨w, hk⟩, k1, k2, k3, ⟨k4, k5, k6⟩, k7, k8, k9, k10, wy, sp⟩ := id Kx
  obtain ⟨⟨hg, G, h10, h283⟩, X, KA, TBs, Tb, RUs, NUs, Z, KUs⟩ := id k1
  obtain ⟨g', eg, eg', hg', dS, dT⟩ : ∃ g', 16 - g = g' ∧ 16 - g' = g ∧ isG g' ∧ (∀ x ∈ gS g, x ∉ gS g') ∧ (∀ x ∈ gT g, x ∉ gT g') := by
    rcases hg with rfl | rfl
    · exact ⟨14, rfl, rfl, Or.inr rfl, by decide, by decide⟩
    · exact ⟨2, rfl, rfl, Or.inl rfl, by decide, by decide⟩
  rw [eg] at k4
  have Z' : Zg h g' := by
    rcases hg' with rfl | rfl
    · exact k5
    · exact k6
  have g0 : ¬ g = 0 := by rcases hg with rfl | rfl <;> omega
  have g0' : ¬ g' = 0 := by rcases hg' with rfl | rfl <;> omega
  have g25 := gS_25 hg
  have g25' := gS_25 hg'
  have t4 := W.2.1.1
  have tb := W.2.1.2
  have w0 := w
  refine sX11_teach _ _ ?_
  refine eX11_teach_0 ?_
  simp only [ks_nop, ks_aload_0, ks_iload_1, ks_iload_2, ks_aload_3, ks_istore_2, ks_astore_3, ks_iconst, ks_if_eq, ks_get0, ks_get3, ks_get1, ks_get2, ks_put0, ks_put1, ks_put2, ks_put3, ks_inv0, ks_inv1, ks_inv2, ks_inv4, ks_inv3, ks_inv5, ks_inv6, ks_inv7, ks_inv8, ks_iret0, kldi_0, kldl_0, klda_0, kldz_0, kst1_0, kst2_0, kldi_1, kldl_1, klda_1, kldz_1, kst1_1n, kst2_1n, kst1_1i, kst2_1i, kst1_1r, kst2_1r, kst1_1z, kst2_1z, kst1_1l, kst2_1l, kldi_2, kldl_2, klda_2, kldz_2, kst1_2n, kst2_2n, kst1_2i, kst2_2i, kst1_2r, kst2_2r, kst1_2z, kst2_2z, kst1_2l, kst2_2l, kldi_3, kldl_3, klda_3, kldz_3, kst1_3n, kst2_3n, kst1_3i, kst2_3i, kst1_3r, kst2_3r, kst1_3z, kst2_3z, kst1_3l, kst2_3l, kpr_r, kcat_n, kcat_i, kcat_r, kcat_z, kcat_l, kargs_0, kargs_s, kret_v, kret_n, kret_x, jX11_teach_0, bX11_teach_0, jX11_teach_42, bX11_teach_42, Nat.reduceAdd, Nat.reduceLeDiff, Nat.reduceEqDiff, Nat.reduceSub, Nat.zero_le, Nat.add_left_cancel_iff, true_and, and_true, if_true, if_false, reduceIte, ne_eq, not_false_eq_true, Nat.add_eq_left, Nat.left_eq_add, kI_sI, kL_sI, kR_sI, kK_sI, kI_sL, kL_sL, kR_sL, kK_sL, kI_sIA, kL_sIA, kR_sIA, kK_sIA, kI_sLA, kL_sLA, kR_sLA, kK_sLA, wK_1 w, wR_1_3 w, wR_1_4 w, wR_1_5 w, wR_1_6 w, wR_1_7 w, wR_1_8 w, wR_1_9 w, wR_1_10 w, wR_1_11 w, wR_1_12 w, r2]
  refine c_demandBytes (by omega) w k7 (fun q => ?_) (fun q => ?_)
  · obtain ⟨n, en, _, hn⟩ := i_num (by omega) q.1 q.2 (by omega)
    subst en
    simp only [ks_nop, ks_aload_0, ks_iload_1, ks_iload_2, ks_aload_3, ks_istore_2, ks_astore_3, ks_iconst, ks_if_eq, ks_get0, ks_get3, ks_get1, ks_get2, ks_put0, ks_put1, ks_put2, ks_put3, ks_inv0, ks_inv1, ks_inv2, ks_inv4, ks_inv3, ks_inv5, ks_inv6, ks_inv7, ks_inv8, ks_iret0, kldi_0, kldl_0, klda_0, kldz_0, kst1_0, kst2_0, kldi_1, kldl_1, klda_1, kldz_1, kst1_1n, kst2_1n, kst1_1i, kst2_1i, kst1_1r, kst2_1r, kst1_1z, kst2_1z, kst1_1l, kst2_1l, kldi_2, kldl_2, klda_2, kldz_2, kst1_2n, kst2_2n, kst1_2i, kst2_2i, kst1_2r, kst2_2r, kst1_2z, kst2_2z, kst1_2l, kst2_2l, kldi_3, kldl_3, klda_3, kldz_3, kst1_3n, kst2_3n, kst1_3i, kst2_3i, kst1_3r, kst2_3r, kst1_3z, kst2_3z, kst1_3l, kst2_3l, kpr_r, kcat_n, kcat_i, kcat_r, kcat_z, kcat_l, kargs_0, kargs_s, kret_v, kret_n, kret_x, jX11_teach_0, bX11_teach_0, jX11_teach_42, bX11_teach_42, Nat.reduceAdd, Nat.reduceLeDiff, Nat.reduceEqDiff, Nat.reduceSub, Nat.zero_le, Nat.add_left_cancel_iff, true_and, and_true, if_true, if_false, reduceIte, ne_eq, not_false_eq_true, Nat.add_eq_left, Nat.left_eq_add, kI_sI, kL_sI, kR_sI, kK_sI, kI_sL, kL_sL, kR_sL, kK_sL, kI_sIA, kL_sIA, kR_sIA, kK_sIA, kI_sLA, kL_sLA, kR_sLA, kK_sLA, wK_1 w, wR_1_3 w, wR_1_4 w, wR_1_5 w, wR_1_6 w, wR_1_7 w, wR_1_8 w, wR_1_9 w, wR_1_10 w, wR_1_11 w, wR_1_12 w, k4, g0', gK w hg', r2]
    try simp (disch := omega) only [a_0, a_1, a_L0, a_L1, a_lt, a_le, a_eq, a_sub, a_addn, nI_add, pk_mul, a_in, nI_clamp, a_eqn, a_eqn', a_eqn2, a_n12, eq_self, a_ltn, a_ltn', a_len, a_len', a_shl1, z_shr, fa_and, fa_or, a_tb, a_tb0, a_b0, a_b1, a_bi, a_lc0, a_lcle, a_lcge, a_lclt, a_lcgt, upd_at, upd_ne, updL_at, updL_ne, Nat.reduceAdd, Nat.reduceSub, Nat.reduceMul, Nat.reduceLT, Nat.reduceLeDiff, Nat.reduceEqDiff, true_and, and_true, if_true, if_false, reduceIte, ne_eq, not_false_eq_true, not_true_eq_false, true_implies, false_implies, Nat.not_lt, Nat.not_le, Nat.le_refl, Nat.add_sub_cancel, Nat.lt_irrefl, Nat.not_lt_zero, Nat.zero_le, Nat.testBit_shiftRight, Nat.add_zero, reduceCtorEq, true_or, or_true, or_false, false_or, Bool.true_eq_false, Bool.false_eq_true, Bool.not_eq_false, Bool.not_eq_true, Decidable.not_not, wK_1 w, wR_1_3 w, wR_1_4 w, wR_1_5 w, wR_1_6 w, wR_1_7 w, wR_1_8 w, wR_1_9 w, wR_1_10 w, wR_1_11 w, wR_1_12 w, k4, g0', gK w hg', r2]
    repeat (first | refine ⟨fun _ => ?_, fun c => absurd c (by omega)⟩ | refine ⟨fun c => absurd c (by omega), fun _ => ?_⟩)
    refine c_read (by omega) w hg' Z' k7 t4 tb hn (fun f p h1 ep f1 z1 p1 => ?_) (fun L B1 h1 ep f1 z1 p1 G1 => ?_)
    · have w := Fr_W f1 w0
      have r11 : kR h1 1 1 = g' := by rw [Fr_R f1]; exact k4
      have ff := prs_flt n 0 0 0 [] [] ep
      obtain ⟨c1, c2⟩ := tc_f (S := (t, fp, B, nn, P, C, A, ls, lk, wr, T, sd)) q (by omega) ep
      rw [c1, show rTeach t (nI n) = .inl (nI f) from c2] at H
      have f2 : Fr (1 :: 26 :: gS g') (gT g') h (sI (sI h1 1 2 (nI p)) 26 1 (nI 0)) := Fr_sI (Fr_sI (Fr_mono f1 (fun x hx => List.mem_cons_of_mem _ (List.mem_cons_of_mem _ hx)) (fun _ hx => hx)) (by simp)) (by simp)
      have z2 : Zg (sI (sI h1 1 2 (nI p)) 26 1 (nI 0)) g' := by
        have m6 : g' + 6 ∈ gS g' := by simp [gS]
        have := g25'.1 _ m6
        unfold Zg at z1 ⊢
        rw [kI_sI, if_neg (by omega), kI_sI, if_neg (by omega)]
        exact z1
      have K2 := CIx_flt (fp' := nI p) f2 hg' dS dT eg z2 (by rw [kI_sI, if_neg (by omega), kI_q, if_pos rfl]) (by rw [kI_q, if_pos rfl]) Kx
      have fin := H _ ⟨g, a, b, c, d, N, e, s, K2⟩ (FG_of (FC_fr f2 (fun x hx => by
        rcases List.mem_cons.mp hx with z | z
        · omega
        · rcases List.mem_cons.mp z with z | z
          · omega
          · have := g25'.1 x z; omega) (fun x hx => by have := g25'.2 x hx; omega)))
      simp only [ks_nop, ks_aload_0, ks_iload_1, ks_iload_2, ks_aload_3, ks_istore_2, ks_astore_3, ks_iconst, ks_if_eq, ks_get0, ks_get3, ks_get1, ks_get2, ks_put0, ks_put1, ks_put2, ks_put3, ks_inv0, ks_inv1, ks_inv2, ks_inv4, ks_inv3, ks_inv5, ks_inv6, ks_inv7, ks_inv8, ks_iret0, kldi_0, kldl_0, klda_0, kldz_0, kst1_0, kst2_0, kldi_1, kldl_1, klda_1, kldz_1, kst1_1n, kst2_1n, kst1_1i, kst2_1i, kst1_1r, kst2_1r, kst1_1z, kst2_1z, kst1_1l, kst2_1l, kldi_2, kldl_2, klda_2, kldz_2, kst1_2n, kst2_2n, kst1_2i, kst2_2i, kst1_2r, kst2_2r, kst1_2z, kst2_2z, kst1_2l, kst2_2l, kldi_3, kldl_3, klda_3, kldz_3, kst1_3n, kst2_3n, kst1_3i, kst2_3i, kst1_3r, kst2_3r, kst1_3z, kst2_3z, kst1_3l, kst2_3l, kpr_r, kcat_n, kcat_i, kcat_r, kcat_z, kcat_l, kargs_0, kargs_s, kret_v, kret_n, kret_x, jX11_teach_0, bX11_teach_0, jX11_teach_42, bX11_teach_42, Nat.reduceAdd, Nat.reduceLeDiff, Nat.reduceEqDiff, Nat.reduceSub, Nat.zero_le, Nat.add_left_cancel_iff, true_and, and_true, if_true, if_false, reduceIte, ne_eq, not_false_eq_true, Nat.add_eq_left, Nat.left_eq_add, kI_sI, kL_sI, kR_sI, kK_sI, kI_sL, kL_sL, kR_sL, kK_sL, kI_sIA, kL_sIA, kR_sIA, kK_sIA, kI_sLA, kL_sLA, kR_sLA, kK_sLA, wK_1 w, wR_1_3 w, wR_1_4 w, wR_1_5 w, wR_1_6 w, wR_1_7 w, wR_1_8 w, wR_1_9 w, wR_1_10 w, wR_1_11 w, wR_1_12 w, r11, g0', gK w hg', r2]
      try simp (disch := omega) only [a_0, a_1, a_L0, a_L1, a_lt, a_le, a_eq, a_sub, a_addn, nI_add, pk_mul, a_in, nI_clamp, a_eqn, a_eqn', a_eqn2, a_n12, eq_self, a_ltn, a_ltn', a_len, a_len', a_shl1, z_shr, fa_and, fa_or, a_tb, a_tb0, a_b0, a_b1, a_bi, a_lc0, a_lcle, a_lcge, a_lclt, a_lcgt, upd_at, upd_ne, updL_at, updL_ne, Nat.reduceAdd, Nat.reduceSub, Nat.reduceMul, Nat.reduceLT, Nat.reduceLeDiff, Nat.reduceEqDiff, true_and, and_true, if_true, if_false, reduceIte, ne_eq, not_false_eq_true, not_true_eq_false, true_implies, false_implies, Nat.not_lt, Nat.not_le, Nat.le_refl, Nat.add_sub_cancel, Nat.lt_irrefl, Nat.not_lt_zero, Nat.zero_le, Nat.testBit_shiftRight, Nat.add_zero, reduceCtorEq, true_or, or_true, or_false, false_or, Bool.true_eq_false, Bool.false_eq_true, Bool.not_eq_false, Bool.not_eq_true, Decidable.not_not, wK_1 w, wR_1_3 w, wR_1_4 w, wR_1_5 w, wR_1_6 w, wR_1_7 w, wR_1_8 w, wR_1_9 w, wR_1_10 w, wR_1_11 w, wR_1_12 w, r11, g0', gK w hg', r2]
      repeat (first | refine ⟨fun _ => ?_, fun c => absurd c (by omega)⟩ | refine ⟨fun c => absurd c (by omega), fun _ => ?_⟩)
      refine sX1_place _ ?_
      refine eX1_place_0 ?_
      simp only [ks_nop, ks_aload_0, ks_get0, ks_get3, ks_get1, ks_get2, ks_iret0, kldi_0, kldl_0, klda_0, kldz_0, kst1_0, kst2_0, kcat_n, kcat_i, kcat_r, kcat_z, kcat_l, jX1_place_0, bX1_place_0, Nat.reduceAdd, Nat.reduceLeDiff, Nat.reduceEqDiff, Nat.reduceSub, Nat.zero_le, Nat.add_left_cancel_iff, true_and, and_true, if_true, if_false, reduceIte, ne_eq, not_false_eq_true, Nat.add_eq_left, Nat.left_eq_add, gK w hg', p1]
      refine ⟨False.elim, ?_⟩
      simp only [ks_nop, ks_aload_0, ks_iload_1, ks_iload_2, ks_aload_3, ks_istore_2, ks_astore_3, ks_iconst, ks_if_eq, ks_get0, ks_get3, ks_get1, ks_get2, ks_put0, ks_put1, ks_put2, ks_put3, ks_inv0, ks_inv1, ks_inv2, ks_inv4, ks_inv3, ks_inv5, ks_inv6, ks_inv7, ks_inv8, ks_iret0, kldi_0, kldl_0, klda_0, kldz_0, kst1_0, kst2_0, kldi_1, kldl_1, klda_1, kldz_1, kst1_1n, kst2_1n, kst1_1i, kst2_1i, kst1_1r, kst2_1r, kst1_1z, kst2_1z, kst1_1l, kst2_1l, kldi_2, kldl_2, klda_2, kldz_2, kst1_2n, kst2_2n, kst1_2i, kst2_2i, kst1_2r, kst2_2r, kst1_2z, kst2_2z, kst1_2l, kst2_2l, kldi_3, kldl_3, klda_3, kldz_3, kst1_3n, kst2_3n, kst1_3i, kst2_3i, kst1_3r, kst2_3r, kst1_3z, kst2_3z, kst1_3l, kst2_3l, kpr_r, kcat_n, kcat_i, kcat_r, kcat_z, kcat_l, kargs_0, kargs_s, kret_v, kret_n, kret_x, jX11_teach_0, bX11_teach_0, jX11_teach_42, bX11_teach_42, Nat.reduceAdd, Nat.reduceLeDiff, Nat.reduceEqDiff, Nat.reduceSub, Nat.zero_le, Nat.add_left_cancel_iff, true_and, and_true, if_true, if_false, reduceIte, ne_eq, not_false_eq_true, Nat.add_eq_left, Nat.left_eq_add, kI_sI, kL_sI, kR_sI, kK_sI, kI_sL, kL_sL, kR_sL, kK_sL, kI_sIA, kL_sIA, kR_sIA, kK_sIA, kI_sLA, kL_sLA, kR_sLA, kK_sLA, wK_1 w, wR_1_3 w, wR_1_4 w, wR_1_5 w, wR_1_6 w, wR_1_7 w, wR_1_8 w, wR_1_9 w, wR_1_10 w, wR_1_11 w, wR_1_12 w, wK_26 w, r2]
      try simp (disch := omega) only [a_0, a_1, a_L0, a_L1, a_lt, a_le, a_eq, a_sub, a_addn, nI_add, pk_mul, a_in, nI_clamp, a_eqn, a_eqn', a_eqn2, a_n12, eq_self, a_ltn, a_ltn', a_len, a_len', a_shl1, z_shr, fa_and, fa_or, a_tb, a_tb0, a_b0, a_b1, a_bi, a_lc0, a_lcle, a_lcge, a_lclt, a_lcgt, upd_at, upd_ne, updL_at, updL_ne, Nat.reduceAdd, Nat.reduceSub, Nat.reduceMul, Nat.reduceLT, Nat.reduceLeDiff, Nat.reduceEqDiff, true_and, and_true, if_true, if_false, reduceIte, ne_eq, not_false_eq_true, not_true_eq_false, true_implies, false_implies, Nat.not_lt, Nat.not_le, Nat.le_refl, Nat.add_sub_cancel, Nat.lt_irrefl, Nat.not_lt_zero, Nat.zero_le, Nat.testBit_shiftRight, Nat.add_zero, reduceCtorEq, true_or, or_true, or_false, false_or, Bool.true_eq_false, Bool.false_eq_true, Bool.not_eq_false, Bool.not_eq_true, Decidable.not_not, wK_1 w, wR_1_3 w, wR_1_4 w, wR_1_5 w, wR_1_6 w, wR_1_7 w, wR_1_8 w, wR_1_9 w, wR_1_10 w, wR_1_11 w, wR_1_12 w, wK_26 w, r2]
      repeat (first | refine ⟨fun _ => ?_, fun c => absurd c (by omega)⟩ | refine ⟨fun c => absurd c (by omega), fun _ => ?_⟩)
      refine sX9_clear _ ?_
      refine eX9_clear_0 ?_
      simp only [ks_nop, ks_aload_0, ks_iconst, ks_put0, ks_put1, ks_put2, ks_put3, ks_vret, kldi_0, kldl_0, klda_0, kldz_0, kst1_0, kst2_0, kcat_n, kcat_i, kcat_r, kcat_z, kcat_l, jX9_clear_0, bX9_clear_0, Nat.reduceAdd, Nat.reduceLeDiff, Nat.reduceEqDiff, Nat.reduceSub, Nat.zero_le, Nat.add_left_cancel_iff, true_and, and_true, if_true, if_false, reduceIte, ne_eq, not_false_eq_true, Nat.add_eq_left, Nat.left_eq_add, kI_sI, kL_sI, kR_sI, kK_sI, kI_sL, kL_sL, kR_sL, kK_sL, kI_sIA, kL_sIA, kR_sIA, kK_sIA, kI_sLA, kL_sLA, kR_sLA, kK_sLA, wK_26 w, wR_26_0 w, wK_27 w]
      try simp (disch := omega) only [a_0, a_1, a_L0, a_L1, a_lt, a_le, a_eq, a_sub, a_addn, nI_add, pk_mul, a_in, nI_clamp, a_eqn, a_eqn', a_eqn2, a_n12, eq_self, a_ltn, a_ltn', a_len, a_len', a_shl1, z_shr, fa_and, fa_or, a_tb, a_tb0, a_b0, a_b1, a_bi, a_lc0, a_lcle, a_lcge, a_lclt, a_lcgt, upd_at, upd_ne, updL_at, updL_ne, Nat.reduceAdd, Nat.reduceSub, Nat.reduceMul, Nat.reduceLT, Nat.reduceLeDiff, Nat.reduceEqDiff, true_and, and_true, if_true, if_false, reduceIte, ne_eq, not_false_eq_true, not_true_eq_false, true_implies, false_implies, Nat.not_lt, Nat.not_le, Nat.le_refl, Nat.add_sub_cancel, Nat.lt_irrefl, Nat.not_lt_zero, Nat.zero_le, Nat.testBit_shiftRight, Nat.add_zero, reduceCtorEq, true_or, or_true, or_false, false_or, Bool.true_eq_false, Bool.false_eq_true, Bool.not_eq_false, Bool.not_eq_true, Decidable.not_not]
      simp only [ks_nop, ks_aload_0, ks_iload_1, ks_iload_2, ks_aload_3, ks_istore_2, ks_astore_3, ks_iconst, ks_if_eq, ks_get0, ks_get3, ks_get1, ks_get2, ks_put0, ks_put1, ks_put2, ks_put3, ks_inv0, ks_inv1, ks_inv2, ks_inv4, ks_inv3, ks_inv5, ks_inv6, ks_inv7, ks_inv8, ks_iret0, kldi_0, kldl_0, klda_0, kldz_0, kst1_0, kst2_0, kldi_1, kldl_1, klda_1, kldz_1, kst1_1n, kst2_1n, kst1_1i, kst2_1i, kst1_1r, kst2_1r, kst1_1z, kst2_1z, kst1_1l, kst2_1l, kldi_2, kldl_2, klda_2, kldz_2, kst1_2n, kst2_2n, kst1_2i, kst2_2i, kst1_2r, kst2_2r, kst1_2z, kst2_2z, kst1_2l, kst2_2l, kldi_3, kldl_3, klda_3, kldz_3, kst1_3n, kst2_3n, kst1_3i, kst2_3i, kst1_3r, kst2_3r, kst1_3z, kst2_3z, kst1_3l, kst2_3l, kpr_r, kcat_n, kcat_i, kcat_r, kcat_z, kcat_l, kargs_0, kargs_s, kret_v, kret_n, kret_x, jX11_teach_0, bX11_teach_0, jX11_teach_42, bX11_teach_42, Nat.reduceAdd, Nat.reduceLeDiff, Nat.reduceEqDiff, Nat.reduceSub, Nat.zero_le, Nat.add_left_cancel_iff, true_and, and_true, if_true, if_false, reduceIte, ne_eq, not_false_eq_true, Nat.add_eq_left, Nat.left_eq_add, kI_sI, kL_sI, kR_sI, kK_sI, kI_sL, kL_sL, kR_sL, kK_sL, kI_sIA, kL_sIA, kR_sIA, kK_sIA, kI_sLA, kL_sLA, kR_sLA, kK_sLA]
      try simp (disch := omega) only [a_0, a_1, a_L0, a_L1, a_lt, a_le, a_eq, a_sub, a_addn, nI_add, pk_mul, a_in, nI_clamp, a_eqn, a_eqn', a_eqn2, a_n12, eq_self, a_ltn, a_ltn', a_len, a_len', a_shl1, z_shr, fa_and, fa_or, a_tb, a_tb0, a_b0, a_b1, a_bi, a_lc0, a_lcle, a_lcge, a_lclt, a_lcgt, upd_at, upd_ne, updL_at, updL_ne, Nat.reduceAdd, Nat.reduceSub, Nat.reduceMul, Nat.reduceLT, Nat.reduceLeDiff, Nat.reduceEqDiff, true_and, and_true, if_true, if_false, reduceIte, ne_eq, not_false_eq_true, not_true_eq_false, true_implies, false_implies, Nat.not_lt, Nat.not_le, Nat.le_refl, Nat.add_sub_cancel, Nat.lt_irrefl, Nat.not_lt_zero, Nat.zero_le, Nat.testBit_shiftRight, Nat.add_zero, reduceCtorEq, true_or, or_true, or_false, false_or, Bool.true_eq_false, Bool.false_eq_true, Bool.not_eq_false, Bool.not_eq_true, Decidable.not_not]
      repeat (first | refine ⟨fun _ => ?_, fun c => absurd c (by omega)⟩ | refine ⟨fun c => absurd c (by omega), fun _ => ?_⟩)
      first | exact fin | exact ⟨False.elim, fin⟩
    · have w := Fr_W f1 w0
      have r11 : kR h1 1 1 = g' := by rw [Fr_R f1]; exact k4
      have r10 : kR h1 1 0 = g := by rw [Fr_R f1]; exact h10
      have hB := (prs_bok tb n 0 0 0 [] [] pok_0 ep).1
      obtain ⟨c1, c2⟩ := tc_o (S := (t, fp, B, nn, P, C, A, ls, lk, wr, T, sd)) q (by omega) ep
      rw [c1, show rTeach t (nI n) = .inl (nI 0) from c2] at H
      have FA : FX (1 :: 26 :: gS g') (28 :: gT g') [(1, 0), (1, 1), (28, 3)] h (sL (sR (sR (sR (sI (sI h1 1 2 (-nI 1)) 26 1 (nI 0)) 1 0 g') 1 1 g) 28 3 g') 28 4 (lN 1)) := FX_sL (FX_sR (FX_sR (FX_sR (FX_sI (FX_sI (FX_of (Fr_mono f1 (fun x hx => List.mem_cons_of_mem _ (List.mem_cons_of_mem _ hx)) (fun _ hx => List.mem_cons_of_mem _ hx))) (by simp)) (by simp)) (by simp)) (by simp)) (by simp)) (by simp)
      have F1 : FX [1, 26] [28] [(1, 0), (1, 1), (28, 3)] h1 (sL (sR (sR (sR (sI (sI h1 1 2 (-nI 1)) 26 1 (nI 0)) 1 0 g') 1 1 g) 28 3 g') 28 4 (lN 1)) := FX_sL (FX_sR (FX_sR (FX_sR (FX_sI (FX_sI (FX_rf _ _ _ _) (by simp)) (by simp)) (by simp)) (by simp)) (by simp)) (by simp)
      have q10 : kR (sL (sR (sR (sR (sI (sI h1 1 2 (-nI 1)) 26 1 (nI 0)) 1 0 g') 1 1 g) 28 3 g') 28 4 (lN 1)) 1 0 = g' := by
        rw [kR_sL, kR_sR, if_neg (by omega), kR_q, if_neg (by omega), kR_q, if_pos rfl]
      have q11 : kR (sL (sR (sR (sR (sI (sI h1 1 2 (-nI 1)) 26 1 (nI 0)) 1 0 g') 1 1 g) 28 3 g') 28 4 (lN 1)) 1 1 = g := by
        rw [kR_sL, kR_sR, if_neg (by omega), kR_q, if_pos rfl]
      have q28 : kR (sL (sR (sR (sR (sI (sI h1 1 2 (-nI 1)) 26 1 (nI 0)) 1 0 g') 1 1 g) 28 3 g') 28 4 (lN 1)) 28 3 = g' := by
        rw [kR_sL, kR_q, if_pos rfl]
      have l28 : kL (sL (sR (sR (sR (sI (sI h1 1 2 (-nI 1)) 26 1 (nI 0)) 1 0 g') 1 1 g) 28 3 g') 28 4 (lN 1)) 28 4 = lN 1 := by
        rw [kL_sL, if_pos rfl, updL_at]
      have i12 : kI (sL (sR (sR (sR (sI (sI h1 1 2 (-nI 1)) 26 1 (nI 0)) 1 0 g') 1 1 g) 28 3 g') 28 4 (lN 1)) 1 2 = -nI 1 := by
        show kI (sI (sI h1 1 2 (-nI 1)) 26 1 (nI 0)) 1 2 = _
        rw [kI_sI, if_neg (by omega), kI_q, if_pos rfl]
      have i26 : kI (sL (sR (sR (sR (sI (sI h1 1 2 (-nI 1)) 26 1 (nI 0)) 1 0 g') 1 1 g) 28 3 g') 28 4 (lN 1)) 26 1 = nI 0 := by
        show kI (sI (sI h1 1 2 (-nI 1)) 26 1 (nI 0)) 26 1 = _
        rw [kI_q, if_pos rfl]
      have cA : kC (sL (sR (sR (sR (sI (sI h1 1 2 (-nI 1)) 26 1 (nI 0)) 1 0 g') 1 1 g) 28 3 g') 28 4 (lN 1)) = kC h := by
        show kC h1 = kC h
        exact Fr_C f1
      have sA : kS (sL (sR (sR (sR (sI (sI h1 1 2 (-nI 1)) 26 1 (nI 0)) 1 0 g') 1 1 g) 28 3 g') 28 4 (lN 1)) = kS h := by
        show kS h1 = kS h
        exact Fr_S f1
      have nA : kN (sL (sR (sR (sR (sI (sI h1 1 2 (-nI 1)) 26 1 (nI 0)) 1 0 g') 1 1 g) 28 3 g') 28 4 (lN 1)) = kN h := by
        show kN h1 = kN h
        exact Fr_N f1
      simp only [ks_nop, ks_aload_0, ks_iload_1, ks_iload_2, ks_aload_3, ks_istore_2, ks_astore_3, ks_iconst, ks_if_eq, ks_get0, ks_get3, ks_get1, ks_get2, ks_put0, ks_put1, ks_put2, ks_put3, ks_inv0, ks_inv1, ks_inv2, ks_inv4, ks_inv3, ks_inv5, ks_inv6, ks_inv7, ks_inv8, ks_iret0, kldi_0, kldl_0, klda_0, kldz_0, kst1_0, kst2_0, kldi_1, kldl_1, klda_1, kldz_1, kst1_1n, kst2_1n, kst1_1i, kst2_1i, kst1_1r, kst2_1r, kst1_1z, kst2_1z, kst1_1l, kst2_1l, kldi_2, kldl_2, klda_2, kldz_2, kst1_2n, kst2_2n, kst1_2i, kst2_2i, kst1_2r, kst2_2r, kst1_2z, kst2_2z, kst1_2l, kst2_2l, kldi_3, kldl_3, klda_3, kldz_3, kst1_3n, kst2_3n, kst1_3i, kst2_3i, kst1_3r, kst2_3r, kst1_3z, kst2_3z, kst1_3l, kst2_3l, kpr_r, kcat_n, kcat_i, kcat_r, kcat_z, kcat_l, kargs_0, kargs_s, kret_v, kret_n, kret_x, jX11_teach_0, bX11_teach_0, jX11_teach_42, bX11_teach_42, Nat.reduceAdd, Nat.reduceLeDiff, Nat.reduceEqDiff, Nat.reduceSub, Nat.zero_le, Nat.add_left_cancel_iff, true_and, and_true, if_true, if_false, reduceIte, ne_eq, not_false_eq_true, Nat.add_eq_left, Nat.left_eq_add, kI_sI, kL_sI, kR_sI, kK_sI, kI_sL, kL_sL, kR_sL, kK_sL, kI_sIA, kL_sIA, kR_sIA, kK_sIA, kI_sLA, kL_sLA, kR_sLA, kK_sLA, wK_1 w, wR_1_3 w, wR_1_4 w, wR_1_5 w, wR_1_6 w, wR_1_7 w, wR_1_8 w, wR_1_9 w, wR_1_10 w, wR_1_11 w, wR_1_12 w, r11, g0', gK w hg', r2]
      try simp (disch := omega) only [a_0, a_1, a_L0, a_L1, a_lt, a_le, a_eq, a_sub, a_addn, nI_add, pk_mul, a_in, nI_clamp, a_eqn, a_eqn', a_eqn2, a_n12, eq_self, a_ltn, a_ltn', a_len, a_len', a_shl1, z_shr, fa_and, fa_or, a_tb, a_tb0, a_b0, a_b1, a_bi, a_lc0, a_lcle, a_lcge, a_lclt, a_lcgt, upd_at, upd_ne, updL_at, updL_ne, Nat.reduceAdd, Nat.reduceSub, Nat.reduceMul, Nat.reduceLT, Nat.reduceLeDiff, Nat.reduceEqDiff, true_and, and_true, if_true, if_false, reduceIte, ne_eq, not_false_eq_true, not_true_eq_false, true_implies, false_implies, Nat.not_lt, Nat.not_le, Nat.le_refl, Nat.add_sub_cancel, Nat.lt_irrefl, Nat.not_lt_zero, Nat.zero_le, Nat.testBit_shiftRight, Nat.add_zero, reduceCtorEq, true_or, or_true, or_false, false_or, Bool.true_eq_false, Bool.false_eq_true, Bool.not_eq_false, Bool.not_eq_true, Decidable.not_not, wK_1 w, wR_1_3 w, wR_1_4 w, wR_1_5 w, wR_1_6 w, wR_1_7 w, wR_1_8 w, wR_1_9 w, wR_1_10 w, wR_1_11 w, wR_1_12 w, r11, g0', gK w hg', r2]
      repeat (first | refine ⟨fun _ => ?_, fun c => absurd c (by omega)⟩ | refine ⟨fun c => absurd c (by omega), fun _ => ?_⟩)
      refine sX1_place _ ?_
      refine eX1_place_0 ?_
      simp only [ks_nop, ks_aload_0, ks_get0, ks_get3, ks_get1, ks_get2, ks_iret0, kldi_0, kldl_0, klda_0, kldz_0, kst1_0, kst2_0, kcat_n, kcat_i, kcat_r, kcat_z, kcat_l, jX1_place_0, bX1_place_0, Nat.reduceAdd, Nat.reduceLeDiff, Nat.reduceEqDiff, Nat.reduceSub, Nat.zero_le, Nat.add_left_cancel_iff, true_and, and_true, if_true, if_false, reduceIte, ne_eq, not_false_eq_true, Nat.add_eq_left, Nat.left_eq_add, gK w hg', p1]
      refine ⟨False.elim, ?_⟩
      simp only [ks_nop, ks_aload_0, ks_iload_1, ks_iload_2, ks_aload_3, ks_istore_2, ks_astore_3, ks_iconst, ks_if_eq, ks_get0, ks_get3, ks_get1, ks_get2, ks_put0, ks_put1, ks_put2, ks_put3, ks_inv0, ks_inv1, ks_inv2, ks_inv4, ks_inv3, ks_inv5, ks_inv6, ks_inv7, ks_inv8, ks_iret0, kldi_0, kldl_0, klda_0, kldz_0, kst1_0, kst2_0, kldi_1, kldl_1, klda_1, kldz_1, kst1_1n, kst2_1n, kst1_1i, kst2_1i, kst1_1r, kst2_1r, kst1_1z, kst2_1z, kst1_1l, kst2_1l, kldi_2, kldl_2, klda_2, kldz_2, kst1_2n, kst2_2n, kst1_2i, kst2_2i, kst1_2r, kst2_2r, kst1_2z, kst2_2z, kst1_2l, kst2_2l, kldi_3, kldl_3, klda_3, kldz_3, kst1_3n, kst2_3n, kst1_3i, kst2_3i, kst1_3r, kst2_3r, kst1_3z, kst2_3z, kst1_3l, kst2_3l, kpr_r, kcat_n, kcat_i, kcat_r, kcat_z, kcat_l, kargs_0, kargs_s, kret_v, kret_n, kret_x, jX11_teach_0, bX11_teach_0, jX11_teach_42, bX11_teach_42, Nat.reduceAdd, Nat.reduceLeDiff, Nat.reduceEqDiff, Nat.reduceSub, Nat.zero_le, Nat.add_left_cancel_iff, true_and, and_true, if_true, if_false, reduceIte, ne_eq, not_false_eq_true, Nat.add_eq_left, Nat.left_eq_add, kI_sI, kL_sI, kR_sI, kK_sI, kI_sL, kL_sL, kR_sL, kK_sL, kI_sIA, kL_sIA, kR_sIA, kK_sIA, kI_sLA, kL_sLA, kR_sLA, kK_sLA, wK_1 w, wR_1_3 w, wR_1_4 w, wR_1_5 w, wR_1_6 w, wR_1_7 w, wR_1_8 w, wR_1_9 w, wR_1_10 w, wR_1_11 w, wR_1_12 w, wK_26 w, r2]
      try simp (disch := omega) only [a_0, a_1, a_L0, a_L1, a_lt, a_le, a_eq, a_sub, a_addn, nI_add, pk_mul, a_in, nI_clamp, a_eqn, a_eqn', a_eqn2, a_n12, eq_self, a_ltn, a_ltn', a_len, a_len', a_shl1, z_shr, fa_and, fa_or, a_tb, a_tb0, a_b0, a_b1, a_bi, a_lc0, a_lcle, a_lcge, a_lclt, a_lcgt, upd_at, upd_ne, updL_at, updL_ne, Nat.reduceAdd, Nat.reduceSub, Nat.reduceMul, Nat.reduceLT, Nat.reduceLeDiff, Nat.reduceEqDiff, true_and, and_true, if_true, if_false, reduceIte, ne_eq, not_false_eq_true, not_true_eq_false, true_implies, false_implies, Nat.not_lt, Nat.not_le, Nat.le_refl, Nat.add_sub_cancel, Nat.lt_irrefl, Nat.not_lt_zero, Nat.zero_le, Nat.testBit_shiftRight, Nat.add_zero, reduceCtorEq, true_or, or_true, or_false, false_or, Bool.true_eq_false, Bool.false_eq_true, Bool.not_eq_false, Bool.not_eq_true, Decidable.not_not, wK_1 w, wR_1_3 w, wR_1_4 w, wR_1_5 w, wR_1_6 w, wR_1_7 w, wR_1_8 w, wR_1_9 w, wR_1_10 w, wR_1_11 w, wR_1_12 w, wK_26 w, r2]
      repeat (first | refine ⟨fun _ => ?_, fun c => absurd c (by omega)⟩ | refine ⟨fun c => absurd c (by omega), fun _ => ?_⟩)
      refine sX9_clear _ ?_
      refine eX9_clear_0 ?_
      simp only [ks_nop, ks_aload_0, ks_iconst, ks_put0, ks_put1, ks_put2, ks_put3, ks_vret, kldi_0, kldl_0, klda_0, kldz_0, kst1_0, kst2_0, kcat_n, kcat_i, kcat_r, kcat_z, kcat_l, jX9_clear_0, bX9_clear_0, Nat.reduceAdd, Nat.reduceLeDiff, Nat.reduceEqDiff, Nat.reduceSub, Nat.zero_le, Nat.add_left_cancel_iff, true_and, and_true, if_true, if_false, reduceIte, ne_eq, not_false_eq_true, Nat.add_eq_left, Nat.left_eq_add, kI_sI, kL_sI, kR_sI, kK_sI, kI_sL, kL_sL, kR_sL, kK_sL, kI_sIA, kL_sIA, kR_sIA, kK_sIA, kI_sLA, kL_sLA, kR_sLA, kK_sLA, wK_26 w, wR_26_0 w, wK_27 w]
      try simp (disch := omega) only [a_0, a_1, a_L0, a_L1, a_lt, a_le, a_eq, a_sub, a_addn, nI_add, pk_mul, a_in, nI_clamp, a_eqn, a_eqn', a_eqn2, a_n12, eq_self, a_ltn, a_ltn', a_len, a_len', a_shl1, z_shr, fa_and, fa_or, a_tb, a_tb0, a_b0, a_b1, a_bi, a_lc0, a_lcle, a_lcge, a_lclt, a_lcgt, upd_at, upd_ne, updL_at, updL_ne, Nat.reduceAdd, Nat.reduceSub, Nat.reduceMul, Nat.reduceLT, Nat.reduceLeDiff, Nat.reduceEqDiff, true_and, and_true, if_true, if_false, reduceIte, ne_eq, not_false_eq_true, not_true_eq_false, true_implies, false_implies, Nat.not_lt, Nat.not_le, Nat.le_refl, Nat.add_sub_cancel, Nat.lt_irrefl, Nat.not_lt_zero, Nat.zero_le, Nat.testBit_shiftRight, Nat.add_zero, reduceCtorEq, true_or, or_true, or_false, false_or, Bool.true_eq_false, Bool.false_eq_true, Bool.not_eq_false, Bool.not_eq_true, Decidable.not_not]
      simp only [ks_nop, ks_aload_0, ks_iload_1, ks_iload_2, ks_aload_3, ks_istore_2, ks_astore_3, ks_iconst, ks_if_eq, ks_get0, ks_get3, ks_get1, ks_get2, ks_put0, ks_put1, ks_put2, ks_put3, ks_inv0, ks_inv1, ks_inv2, ks_inv4, ks_inv3, ks_inv5, ks_inv6, ks_inv7, ks_inv8, ks_iret0, kldi_0, kldl_0, klda_0, kldz_0, kst1_0, kst2_0, kldi_1, kldl_1, klda_1, kldz_1, kst1_1n, kst2_1n, kst1_1i, kst2_1i, kst1_1r, kst2_1r, kst1_1z, kst2_1z, kst1_1l, kst2_1l, kldi_2, kldl_2, klda_2, kldz_2, kst1_2n, kst2_2n, kst1_2i, kst2_2i, kst1_2r, kst2_2r, kst1_2z, kst2_2z, kst1_2l, kst2_2l, kldi_3, kldl_3, klda_3, kldz_3, kst1_3n, kst2_3n, kst1_3i, kst2_3i, kst1_3r, kst2_3r, kst1_3z, kst2_3z, kst1_3l, kst2_3l, kpr_r, kcat_n, kcat_i, kcat_r, kcat_z, kcat_l, kargs_0, kargs_s, kret_v, kret_n, kret_x, jX11_teach_0, bX11_teach_0, jX11_teach_42, bX11_teach_42, Nat.reduceAdd, Nat.reduceLeDiff, Nat.reduceEqDiff, Nat.reduceSub, Nat.zero_le, Nat.add_left_cancel_iff, true_and, and_true, if_true, if_false, reduceIte, ne_eq, not_false_eq_true, Nat.add_eq_left, Nat.left_eq_add, kI_sI, kL_sI, kR_sI, kK_sI, kI_sL, kL_sL, kR_sL, kK_sL, kI_sIA, kL_sIA, kR_sIA, kK_sIA, kI_sLA, kL_sLA, kR_sLA, kK_sLA, wK_1 w, wR_1_3 w, wR_1_4 w, wR_1_5 w, wR_1_6 w, wR_1_7 w, wR_1_8 w, wR_1_9 w, wR_1_10 w, wR_1_11 w, wR_1_12 w, kR_q, kR_sI, kK_sI, kK_sR, kR_sR, r11, r10, g0, g0', wK_28 w, r2]
      try simp (disch := omega) only [a_0, a_1, a_L0, a_L1, a_lt, a_le, a_eq, a_sub, a_addn, nI_add, pk_mul, a_in, nI_clamp, a_eqn, a_eqn', a_eqn2, a_n12, eq_self, a_ltn, a_ltn', a_len, a_len', a_shl1, z_shr, fa_and, fa_or, a_tb, a_tb0, a_b0, a_b1, a_bi, a_lc0, a_lcle, a_lcge, a_lclt, a_lcgt, upd_at, upd_ne, updL_at, updL_ne, Nat.reduceAdd, Nat.reduceSub, Nat.reduceMul, Nat.reduceLT, Nat.reduceLeDiff, Nat.reduceEqDiff, true_and, and_true, if_true, if_false, reduceIte, ne_eq, not_false_eq_true, not_true_eq_false, true_implies, false_implies, Nat.not_lt, Nat.not_le, Nat.le_refl, Nat.add_sub_cancel, Nat.lt_irrefl, Nat.not_lt_zero, Nat.zero_le, Nat.testBit_shiftRight, Nat.add_zero, reduceCtorEq, true_or, or_true, or_false, false_or, Bool.true_eq_false, Bool.false_eq_true, Bool.not_eq_false, Bool.not_eq_true, Decidable.not_not, wK_1 w, wR_1_3 w, wR_1_4 w, wR_1_5 w, wR_1_6 w, wR_1_7 w, wR_1_8 w, wR_1_9 w, wR_1_10 w, wR_1_11 w, wR_1_12 w, kR_q, kR_sI, kK_sI, kK_sR, kR_sR, r11, r10, g0, g0', wK_28 w, r2]
      repeat (first | refine ⟨fun _ => ?_, fun c => absurd c (by omega)⟩ | refine ⟨fun c => absurd c (by omega), fun _ => ?_⟩)
      try simp only [r11, r10, g0, g0', not_false_eq_true, true_and, r2]
      refine sX10_begin _ _ ?_
      refine eX10_begin_0 ?_
      simp only [ks_nop, ks_aload_0, ks_aload_1, ks_lconst, ks_put0, ks_put1, ks_put2, ks_put3, ks_vret, kldi_0, kldl_0, klda_0, kldz_0, kst1_0, kst2_0, kldi_1, kldl_1, klda_1, kldz_1, kst1_1n, kst2_1n, kst1_1i, kst2_1i, kst1_1r, kst2_1r, kst1_1z, kst2_1z, kst1_1l, kst2_1l, kcat_n, kcat_i, kcat_r, kcat_z, kcat_l, jX10_begin_0, bX10_begin_0, Nat.reduceAdd, Nat.reduceLeDiff, Nat.reduceEqDiff, Nat.reduceSub, Nat.zero_le, Nat.add_left_cancel_iff, true_and, and_true, if_true, if_false, reduceIte, ne_eq, not_false_eq_true, Nat.add_eq_left, Nat.left_eq_add, kK_sR, kK_sI, wK_28 w]
      simp only [ks_nop, ks_aload_0, ks_iload_1, ks_iload_2, ks_aload_3, ks_istore_2, ks_astore_3, ks_iconst, ks_if_eq, ks_get0, ks_get3, ks_get1, ks_get2, ks_put0, ks_put1, ks_put2, ks_put3, ks_inv0, ks_inv1, ks_inv2, ks_inv4, ks_inv3, ks_inv5, ks_inv6, ks_inv7, ks_inv8, ks_iret0, kldi_0, kldl_0, klda_0, kldz_0, kst1_0, kst2_0, kldi_1, kldl_1, klda_1, kldz_1, kst1_1n, kst2_1n, kst1_1i, kst2_1i, kst1_1r, kst2_1r, kst1_1z, kst2_1z, kst1_1l, kst2_1l, kldi_2, kldl_2, klda_2, kldz_2, kst1_2n, kst2_2n, kst1_2i, kst2_2i, kst1_2r, kst2_2r, kst1_2z, kst2_2z, kst1_2l, kst2_2l, kldi_3, kldl_3, klda_3, kldz_3, kst1_3n, kst2_3n, kst1_3i, kst2_3i, kst1_3r, kst2_3r, kst1_3z, kst2_3z, kst1_3l, kst2_3l, kpr_r, kcat_n, kcat_i, kcat_r, kcat_z, kcat_l, kargs_0, kargs_s, kret_v, kret_n, kret_x, jX11_teach_0, bX11_teach_0, jX11_teach_42, bX11_teach_42, Nat.reduceAdd, Nat.reduceLeDiff, Nat.reduceEqDiff, Nat.reduceSub, Nat.zero_le, Nat.add_left_cancel_iff, true_and, and_true, if_true, if_false, reduceIte, ne_eq, not_false_eq_true, Nat.add_eq_left, Nat.left_eq_add, kR_q, kR_ne, kR_sL, kR_sI, kK_sL, kK_sI, kK_sR, wK_1 w, wR_1_3 w, wR_1_4 w, wR_1_5 w, wR_1_6 w, wR_1_7 w, wR_1_8 w, wR_1_9 w, wR_1_10 w, wR_1_11 w, wR_1_12 w, g0', wK_28 w, wK_55 w, r2]
      simp only [a_L1]
      generalize sL (sR (sR (sR (sI (sI h1 1 2 (-nI 1)) 26 1 (nI 0)) 1 0 g') 1 1 g) 28 3 g') 28 4 (lN 1) = hA at FA F1 q10 q11 q28 l28 i12 i26 cA sA nA ⊢
      have wA : kW hA := FX_W FA (by decide) hk w0
      have kA : 105 ≤ kN hA := by omega
      have n1N : kN h1 = kN h := Fr_N f1
      have GA1 : GQ hA g' B1 L.length := by
        have := GQ_fr (FX_Fr F1) (fun x hx q => by
          have := g25'.1 x hx
          rcases List.mem_append.mp q with z | z
          · simp at z; omega
          · rw [List.mem_range'_1] at z; omega) (fun x hx q => by
          have := g25'.2 x hx
          rcases List.mem_append.mp q with z | z
          · simp at z; omega
          · rw [List.mem_range'_1] at z; omega) (GP_GQ G1)
        exact this
      obtain ⟨⟨A1, L0, m1, m2, kk⟩, _⟩ := id k2
      obtain ⟨⟨l1, l2, l3, l4⟩, ⟨q1, q2, q3, q4⟩, ⟨da, db, dc, dd⟩, nab⟩ := id L0
      obtain ⟨⟨d1, d2, d3, d4⟩, ne1, ne2, ne3, ne4⟩ := id k3
      have LA : SWL hA a b c d N := by
        refine ⟨⟨?_, ?_, ?_, ?_⟩, ⟨?_, ?_, ?_, ?_⟩, ⟨da, db, dc, dd⟩, nab⟩
        · rw [FA.2.2.2.2 55 4 (by omega) (by simp)]; exact l1
        · rw [FA.2.2.2.2 55 5 (by omega) (by simp)]; exact l2
        · rw [FA.2.2.2.2 55 6 (by omega) (by simp)]; exact l3
        · rw [FA.2.2.2.2 55 7 (by omega) (by simp)]; exact l4
        · rw [FA.2.2.2.1 a (by omega)]; exact q1
        · rw [FA.2.2.2.1 b (by omega)]; exact q2
        · rw [FA.2.2.2.1 c (by omega)]; exact q3
        · rw [FA.2.2.2.1 d (by omega)]; exact q4
      refine c_Sbegin (by omega) wA hg' GA1 kA LA (by omega) m2 (fun h4 a' b' c' d' N' f4 r551 i8 i9 am L4 n1 n2 alt bd g4 => ?_)
      have n4 := f4.1
      have w4 : kW h4 := FX_W f4 (by decide) kA wA
      have F14 : FX [1, 26, 55, 56, 57] [28] [(1, 0), (1, 1), (28, 3), (55, 1), (55, 4), (55, 5), (55, 6), (55, 7)] h1 h4 := FX_tr (FX_tr (FX_rf _ _ _ _) F1 (by simp) (by simp) (by simp)) f4 (by simp) (by simp) (by simp)
      have nS : ∀ x, x ≠ 26 → 25 < x → x ∉ 1 :: 26 :: gS g' := by
        intro x h1 h2 q
        rcases List.mem_cons.mp q with z | z
        · omega
        · rcases List.mem_cons.mp z with z | z
          · omega
          · have := g25'.1 x z; omega
      have nT : ∀ x, x ≠ 28 → 25 < x → x ∉ 28 :: gT g' := by
        intro x h1 h2 q
        rcases List.mem_cons.mp q with z | z
        · omega
        · have := g25'.2 x z; omega
      have eI : ∀ x, 26 < x → x ≠ 55 → x ≠ 56 → x ≠ 57 → x ≤ kN h → kI h4 x = kI h x := fun x h1 h2 h3 h4 h5 => (f4.2.1 x (by omega) (by simp; omega)).trans (FA.2.1 x (by omega) (nS x (by omega) (by omega)))
      have eK : ∀ x, x ≤ kN h → kK h4 x = kK h x := fun x hx => (f4.2.2.2.1 x (by omega)).trans (FA.2.2.2.1 x (by omega))
      have ez : ∀ y, 2 ≤ y → y ≤ 25 → kI h4 y = kI h1 y ∧ kL h4 y = kL h1 y := fun y h1 h2 => ⟨F14.2.1 y (by omega) (by simp; omega), F14.2.2.1 y (by omega) (by simp; omega)⟩
      have G4' : GQ h4 g' B1 L.length := by
        have := GQ_fr (FX_Fr F14) (fun x hx q => by
          have := g25'.1 x hx
          rcases List.mem_append.mp q with z | z
          · simp at z; omega
          · rw [List.mem_range'_1] at z; omega) (fun x hx q => by
          have := g25'.2 x hx
          rcases List.mem_append.mp q with z | z
          · simp at z; omega
          · rw [List.mem_range'_1] at z; omega) (GP_GQ G1)
        exact this
      have zz : ∀ y, y = 2 ∨ y = 14 → Zg h1 y → Zg h4 y := by
        intro y hy q
        unfold Zg at q ⊢
        rw [(ez (y + 6) (by omega) (by omega)).1, (ez (y + 8) (by omega) (by omega)).2, (ez (y + 10) (by omega) (by omega)).2]
        exact q
      have zg : Zg h g → Zg h1 g := by
        intro q
        have m6 : g + 6 ∈ gS g := by simp [gS]
        have m8 : g + 8 ∈ gT g := by simp [gT]
        have m10 : g + 10 ∈ gT g := by simp [gT]
        unfold Zg at q ⊢
        rw [f1.2.1 (g + 6) (dS _ m6), f1.2.2 (g + 8) (dT _ m8), f1.2.2 (g + 10) (dT _ m10)]
        exact q
      have z214 : Zg h4 2 ∧ Zg h4 14 := by
        rcases hg with rfl | rfl
        · rw [← eg] at z1
          exact ⟨zz 2 (Or.inl rfl) (zg k5), zz 14 (Or.inr rfl) z1⟩
        · rw [← eg] at z1
          exact ⟨zz 2 (Or.inl rfl) z1, zz 14 (Or.inr rfl) (zg k6)⟩
      obtain ⟨y1, y2, y3, y4⟩ := id wy
      obtain ⟨p1', p2, p3, p4, p5, p6⟩ := id sp
      have y3' := y3
      have p2' := p2
      unfold isD at y3' p2'
      have wn : wok [] := fun x hx => absurd hx List.not_mem_nil
      have C4 : CB h4 [] (-nI 1) B1 L.length sd g' a' b' c' d' N' e s := by
        refine ⟨⟨w4, by omega⟩, ⟨hg', G4', ?_, ?_⟩, ⟨⟨[], ?_, wn, by simp, fun i j h1 h2 => absurd h2 (by simp; omega), fun j h1 h2 => absurd h2 (by simp; omega)⟩, ?_, [], [], ⟨am, L4, n1, n2, r551⟩, 0, 0, by omega, by omega, i8, i9, fun l v h1 h2 => absurd h2 (by omega), fun l v h1 h2 => absurd h2 (by omega)⟩, ⟨bd, by omega, by omega, by omega, by omega⟩, ⟨?_, z214⟩, ⟨?_, fun i hi => absurd hi (by simp)⟩, ?_, ⟨?_, ?_, y3, by omega⟩, ⟨?_, p2, by omega, ?_, ?_, ?_⟩⟩
        · rw [f4.2.2.2.2 1 0 (by omega) (by simp)]; exact q10
        · rw [f4.2.2.2.2 28 3 (by omega) (by simp)]; exact q28
        · rw [f4.2.2.1 28 (by omega) (by simp)]; exact l28
        · unfold Z44 at Z ⊢
          rw [eI 44 (by omega) (by omega) (by omega) (by omega) (by omega)]; exact Z
        · rw [f4.2.2.2.2 1 1 (by omega) (by simp), eg']; exact q11
        · rw [f4.2.1 26 (by omega) (by simp)]; exact i26
        · rw [f4.2.1 1 (by omega) (by simp)]; exact i12
        · rw [f4.2.2.2.2 50 2 (by omega) (by simp), FA.2.2.2.2 50 2 (by omega) (by simp)]; exact y1
        · rw [eK e (by omega)]; exact y2
        · rw [f4.2.2.2.2 64 0 (by omega) (by simp), FA.2.2.2.2 64 0 (by omega) (by simp)]; exact p1'
        · rw [eK s (by omega)]; exact p4
        · rw [eI 64 (by omega) (by omega) (by omega) (by omega) (by omega)]; exact p5
        · rw [eI s (by omega) (by omega) (by omega) (by omega) (by omega)]; exact p6
      have f0 : F0C h h4 := F0C_tr (F0C_fx FA hk (fun x hx => by
        rcases List.mem_cons.mp hx with z | z
        · omega
        · rcases List.mem_cons.mp z with z | z
          · omega
          · have := g25'.1 x z; omega) (fun x hx => by
        rcases List.mem_cons.mp hx with z | z
        · omega
        · have := g25'.2 x z; omega)) (F0C_fx f4 kA (by simp) (by simp))
      have fg : FG h h4 := FG_t4 f0 (by unfold NNs; rw [l1, q1]) (by unfold NNs; rw [L4.1.1, L4.2.1.1]) (by unfold G4 at g4 ⊢; rw [cA, sA] at g4; exact g4) (fFr_v (sgl_len B1))
      have w := w4
      simp only [ks_nop, ks_aload_0, ks_iload_1, ks_iload_2, ks_aload_3, ks_istore_2, ks_astore_3, ks_iconst, ks_if_eq, ks_get0, ks_get3, ks_get1, ks_get2, ks_put0, ks_put1, ks_put2, ks_put3, ks_inv0, ks_inv1, ks_inv2, ks_inv4, ks_inv3, ks_inv5, ks_inv6, ks_inv7, ks_inv8, ks_iret0, kldi_0, kldl_0, klda_0, kldz_0, kst1_0, kst2_0, kldi_1, kldl_1, klda_1, kldz_1, kst1_1n, kst2_1n, kst1_1i, kst2_1i, kst1_1r, kst2_1r, kst1_1z, kst2_1z, kst1_1l, kst2_1l, kldi_2, kldl_2, klda_2, kldz_2, kst1_2n, kst2_2n, kst1_2i, kst2_2i, kst1_2r, kst2_2r, kst1_2z, kst2_2z, kst1_2l, kst2_2l, kldi_3, kldl_3, klda_3, kldz_3, kst1_3n, kst2_3n, kst1_3i, kst2_3i, kst1_3r, kst2_3r, kst1_3z, kst2_3z, kst1_3l, kst2_3l, kpr_r, kcat_n, kcat_i, kcat_r, kcat_z, kcat_l, kargs_0, kargs_s, kret_v, kret_n, kret_x, jX11_teach_0, bX11_teach_0, jX11_teach_42, bX11_teach_42, Nat.reduceAdd, Nat.reduceLeDiff, Nat.reduceEqDiff, Nat.reduceSub, Nat.zero_le, Nat.add_left_cancel_iff, true_and, and_true, if_true, if_false, reduceIte, ne_eq, not_false_eq_true, Nat.add_eq_left, Nat.left_eq_add, kI_sI, kL_sI, kR_sI, kK_sI, kI_sL, kL_sL, kR_sL, kK_sL, kI_sIA, kL_sIA, kR_sIA, kK_sIA, kI_sLA, kL_sLA, kR_sLA, kK_sLA, wK_1 w, wR_1_3 w, wR_1_4 w, wR_1_5 w, wR_1_6 w, wR_1_7 w, wR_1_8 w, wR_1_9 w, wR_1_10 w, wR_1_11 w, wR_1_12 w, wK_1 w, r2]
      try simp (disch := omega) only [a_0, a_1, a_L0, a_L1, a_lt, a_le, a_eq, a_sub, a_addn, nI_add, pk_mul, a_in, nI_clamp, a_eqn, a_eqn', a_eqn2, a_n12, eq_self, a_ltn, a_ltn', a_len, a_len', a_shl1, z_shr, fa_and, fa_or, a_tb, a_tb0, a_b0, a_b1, a_bi, a_lc0, a_lcle, a_lcge, a_lclt, a_lcgt, upd_at, upd_ne, updL_at, updL_ne, Nat.reduceAdd, Nat.reduceSub, Nat.reduceMul, Nat.reduceLT, Nat.reduceLeDiff, Nat.reduceEqDiff, true_and, and_true, if_true, if_false, reduceIte, ne_eq, not_false_eq_true, not_true_eq_false, true_implies, false_implies, Nat.not_lt, Nat.not_le, Nat.le_refl, Nat.add_sub_cancel, Nat.lt_irrefl, Nat.not_lt_zero, Nat.zero_le, Nat.testBit_shiftRight, Nat.add_zero, reduceCtorEq, true_or, or_true, or_false, false_or, Bool.true_eq_false, Bool.false_eq_true, Bool.not_eq_false, Bool.not_eq_true, Decidable.not_not, wK_1 w, wR_1_3 w, wR_1_4 w, wR_1_5 w, wR_1_6 w, wR_1_7 w, wR_1_8 w, wR_1_9 w, wR_1_10 w, wR_1_11 w, wR_1_12 w, wK_1 w, r2]
      repeat (first | refine ⟨fun _ => ?_, fun c => absurd c (by omega)⟩ | refine ⟨fun c => absurd c (by omega), fun _ => ?_⟩)
      refine cx_startL (by omega) C4 (fun h5 K5 fc => ?_)
      have fin := H h5 ⟨g', a', b', c', d', N', e, s, K5⟩ (FG_tl fg fc)
      simp only [ks_nop, ks_aload_0, ks_iload_1, ks_iload_2, ks_aload_3, ks_istore_2, ks_astore_3, ks_iconst, ks_if_eq, ks_get0, ks_get3, ks_get1, ks_get2, ks_put0, ks_put1, ks_put2, ks_put3, ks_inv0, ks_inv1, ks_inv2, ks_inv4, ks_inv3, ks_inv5, ks_inv6, ks_inv7, ks_inv8, ks_iret0, kldi_0, kldl_0, klda_0, kldz_0, kst1_0, kst2_0, kldi_1, kldl_1, klda_1, kldz_1, kst1_1n, kst2_1n, kst1_1i, kst2_1i, kst1_1r, kst2_1r, kst1_1z, kst2_1z, kst1_1l, kst2_1l, kldi_2, kldl_2, klda_2, kldz_2, kst1_2n, kst2_2n, kst1_2i, kst2_2i, kst1_2r, kst2_2r, kst1_2z, kst2_2z, kst1_2l, kst2_2l, kldi_3, kldl_3, klda_3, kldz_3, kst1_3n, kst2_3n, kst1_3i, kst2_3i, kst1_3r, kst2_3r, kst1_3z, kst2_3z, kst1_3l, kst2_3l, kpr_r, kcat_n, kcat_i, kcat_r, kcat_z, kcat_l, kargs_0, kargs_s, kret_v, kret_n, kret_x, jX11_teach_0, bX11_teach_0, jX11_teach_42, bX11_teach_42, Nat.reduceAdd, Nat.reduceLeDiff, Nat.reduceEqDiff, Nat.reduceSub, Nat.zero_le, Nat.add_left_cancel_iff, true_and, and_true, if_true, if_false, reduceIte, ne_eq, not_false_eq_true, Nat.add_eq_left, Nat.left_eq_add, kI_sI, kL_sI, kR_sI, kK_sI, kI_sL, kL_sL, kR_sL, kK_sL, kI_sIA, kL_sIA, kR_sIA, kK_sIA, kI_sLA, kL_sLA, kR_sLA, kK_sLA]
      try simp (disch := omega) only [a_0, a_1, a_L0, a_L1, a_lt, a_le, a_eq, a_sub, a_addn, nI_add, pk_mul, a_in, nI_clamp, a_eqn, a_eqn', a_eqn2, a_n12, eq_self, a_ltn, a_ltn', a_len, a_len', a_shl1, z_shr, fa_and, fa_or, a_tb, a_tb0, a_b0, a_b1, a_bi, a_lc0, a_lcle, a_lcge, a_lclt, a_lcgt, upd_at, upd_ne, updL_at, updL_ne, Nat.reduceAdd, Nat.reduceSub, Nat.reduceMul, Nat.reduceLT, Nat.reduceLeDiff, Nat.reduceEqDiff, true_and, and_true, if_true, if_false, reduceIte, ne_eq, not_false_eq_true, not_true_eq_false, true_implies, false_implies, Nat.not_lt, Nat.not_le, Nat.le_refl, Nat.add_sub_cancel, Nat.lt_irrefl, Nat.not_lt_zero, Nat.zero_le, Nat.testBit_shiftRight, Nat.add_zero, reduceCtorEq, true_or, or_true, or_false, false_or, Bool.true_eq_false, Bool.false_eq_true, Bool.not_eq_false, Bool.not_eq_true, Decidable.not_not]
      repeat (first | refine ⟨fun _ => ?_, fun c => absurd c (by omega)⟩ | refine ⟨fun c => absurd c (by omega), fun _ => ?_⟩)
      first | exact fin | exact ⟨False.elim, fin⟩
  · obtain ⟨c1, c2⟩ := tc_b (S := (t, fp, B, nn, P, C, A, ls, lk, wr, T, sd)) q
    rw [c1, show rTeach t x = .inr 1 from c2] at H
    simp only [ks_nop, ks_aload_0, ks_iload_1, ks_iload_2, ks_aload_3, ks_istore_2, ks_astore_3, ks_iconst, ks_if_eq, ks_get0, ks_get3, ks_get1, ks_get2, ks_put0, ks_put1, ks_put2, ks_put3, ks_inv0, ks_inv1, ks_inv2, ks_inv4, ks_inv3, ks_inv5, ks_inv6, ks_inv7, ks_inv8, ks_iret0, kldi_0, kldl_0, klda_0, kldz_0, kst1_0, kst2_0, kldi_1, kldl_1, klda_1, kldz_1, kst1_1n, kst2_1n, kst1_1i, kst2_1i, kst1_1r, kst2_1r, kst1_1z, kst2_1z, kst1_1l, kst2_1l, kldi_2, kldl_2, klda_2, kldz_2, kst1_2n, kst2_2n, kst1_2i, kst2_2i, kst1_2r, kst2_2r, kst1_2z, kst2_2z, kst1_2l, kst2_2l, kldi_3, kldl_3, klda_3, kldz_3, kst1_3n, kst2_3n, kst1_3i, kst2_3i, kst1_3r, kst2_3r, kst1_3z, kst2_3z, kst1_3l, kst2_3l, kpr_r, kcat_n, kcat_i, kcat_r, kcat_z, kcat_l, kargs_0, kargs_s, kret_v, kret_n, kret_x, jX11_teach_0, bX11_teach_0, jX11_teach_42, bX11_teach_42, Nat.reduceAdd, Nat.reduceLeDiff, Nat.reduceEqDiff, Nat.reduceSub, Nat.zero_le, Nat.add_left_cancel_iff, true_and, and_true, if_true, if_false, reduceIte, ne_eq, not_false_eq_true, Nat.add_eq_left, Nat.left_eq_add, kI_sI, kL_sI, kR_sI, kK_sI, kI_sL, kL_sL, kR_sL, kK_sL, kI_sIA, kL_sIA, kR_sIA, kK_sIA, kI_sLA, kL_sLA, kR_sLA, kK_sLA]
    try simp (disch := omega) only [a_0, a_1, a_L0, a_L1, a_lt, a_le, a_eq, a_sub, a_addn, nI_add, pk_mul, a_in, nI_clamp, a_eqn, a_eqn', a_eqn2, a_n12, eq_self, a_ltn, a_ltn', a_len, a_len', a_shl1, z_shr, fa_and, fa_or, a_tb, a_tb0, a_b0, a_b1, a_bi, a_lc0, a_lcle, a_lcge, a_lclt, a_lcgt, upd_at, upd_ne, updL_at, updL_ne, Nat.reduceAdd, Nat.reduceSub, Nat.reduceMul, Nat.reduceLT, Nat.reduceLeDiff, Nat.reduceEqDiff, true_and, and_true, if_true, if_false, reduceIte, ne_eq, not_false_eq_true, not_true_eq_false, true_implies, false_implies, Nat.not_lt, Nat.not_le, Nat.le_refl, Nat.add_sub_cancel, Nat.lt_irrefl, Nat.not_lt_zero, Nat.zero_le, Nat.testBit_shiftRight, Nat.add_zero, reduceCtorEq, true_or, or_true, or_false, false_or, Bool.true_eq_false, Bool.false_eq_true, Bool.not_eq_false, Bool.not_eq_true, Decidable.not_not]
    repeat (first | refine ⟨fun _ => ?_, fun c => absurd c (by omega)⟩ | refine ⟨fun c => absurd c (by omega), fun _ => ?_⟩)
    exact H _ (CI_exc K0) (FG_exc h)
end ST

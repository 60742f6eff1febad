/-! latest, said, treed, say, of the class -/
def rLatest (ls : LSn) (x : Int32) : RS := match ls with
  | none => if nI 0 ≤ x ∧ x ≤ nI 6 then .inl (-nI 1) else .inr 1
  | some (u, was, cp, cc, a, b, c) => if nI 0 ≤ x ∧ x ≤ nI 6 then .inl ([nI was, nI cp, nI cc, a, b, c, nI u.length].getD x.toNatClampNeg 0) else if nI 10 ≤ x ∧ x < nI (10 + u.length) then .inl (nI (u.getD (x.toNatClampNeg - 10) 0)) else .inr 1
def rSaid (sd : List Nat) (i : Int32) : RS := if nI 0 ≤ i ∧ i < nI sd.length then .inl (nI (sd.getD i.toNatClampNeg 0)) else .inl (-nI 1)
def rTreed (T : TN) (i k : Int32) : RS := if (nI 0 ≤ i ∧ i < nI T.length) ∧ (nI 0 ≤ k ∧ k ≤ nI 2) then .inl (nI ([(gT3 T i.toNatClampNeg).1, (gT3 T i.toNatClampNeg).2.1, (gT3 T i.toNatClampNeg).2.2].getD k.toNatClampNeg 0)) else .inr 1
section OP
variable {r : Nat} {h h' : KH} {Q : KO → KH → Prop} {t : List Nat} {fp : Int32} {B : GB} {nn : Nat} {P : List (List Nat)} {C : CL} {A : List (List Nat)} {ls : LSn} {lk wr : Nat} {T : TN} {sd sd' : List Nat} {g a b c d N e s e' s' : Nat}
theorem CK_fx {S T' : List Nat} {D : List (Nat × Nat)} (f : FX S T' D h h') (hk : 105 ≤ kN h) (hS : ∀ x ∈ S, okC x = true) (hT : ∀ x ∈ T', okC x = true) (hD : ∀ q ∈ D, q = (50, 2) ∨ q = (64, 0)) (K : CK h g B nn P C A) : CK h' g B nn P C A := by
  have fr := FX_Fr f
  have rg : ∀ x ∈ List.range' (kN h + 1) (kN h' - kN h), okC x = true := by
    intro x hx
    rw [List.mem_range'_1] at hx
    unfold okC
    simp
    omega
  have K' := CK_fr fr (fun x hx => (List.mem_append.mp hx).elim (hS x) (rg x)) (fun x hx => (List.mem_append.mp hx).elim (hT x) (rg x)) K
  obtain ⟨⟨a1, a2, _, _⟩, b1, b2, b3, b4, b5, b6, b7, b8⟩ := K'
  refine ⟨⟨a1, a2, ?_, ?_⟩, b1, b2, b3, b4, b5, b6, b7, b8⟩
  · rw [f.2.2.2.2 1 0 (by omega) (fun q => by rcases hD _ q with z | z <;> cases z)]; exact K.1.2.2.1
  · rw [f.2.2.2.2 28 3 (by omega) (fun q => by rcases hD _ q with z | z <;> cases z)]; exact K.1.2.2.2
theorem CI_fx {S T' : List Nat} {D : List (Nat × Nat)} (f : FX S T' D h h') (hS : ∀ x ∈ S, x = 51 ∨ x = 64 ∨ (isD x ∧ x ≠ c ∧ x ≠ d)) (hT : ∀ x ∈ T', isD x ∧ x ≠ a ∧ x ≠ b) (hD : ∀ q ∈ D, q = (50, 2) ∨ q = (64, 0)) (wy : WY h' e') (sp : SPC h' s' sd') (ne : a ≠ e' ∧ b ≠ e' ∧ c ≠ s' ∧ d ≠ s') (K : CIx h t fp B nn P C A ls lk wr T sd g a b c d N e s) : CIx h' t fp B nn P C A ls lk wr T sd' g a b c d N e' s' := by
  obtain ⟨⟨w, hk⟩, k1, k2, ⟨⟨d1, d2, d3, d4⟩, _⟩, ⟨k4, k5, k6⟩, k7, k8, k9, k10, _, _⟩ := K
  have dS : ∀ x ∈ S, x = 51 ∨ x = 64 ∨ x = 52 ∨ (58 ≤ x ∧ x ≤ 61) ∨ x = 65 ∨ 105 < x := by
    intro x hx
    rcases hS x hx with q | q | q
    · omega
    · omega
    · have := q.1
      unfold isD at this
      omega
  have dT : ∀ x ∈ T', x = 52 ∨ (58 ≤ x ∧ x ≤ 61) ∨ x = 65 ∨ 105 < x := by
    intro x hx
    have := (hT x hx).1
    unfold isD at this
    omega
  have hN := f.1
  have eI : ∀ x, x ≤ 105 → ¬ (x = 51 ∨ x = 64 ∨ x = 52 ∨ (58 ≤ x ∧ x ≤ 61) ∨ x = 65) → kI h' x = kI h x := fun x h1 h2 => f.2.1 x (by omega) (fun q => by have := dS x q; omega)
  have eL : ∀ x, x ≤ 105 → ¬ (x = 52 ∨ (58 ≤ x ∧ x ≤ 61) ∨ x = 65) → kL h' x = kL h x := fun x h1 h2 => f.2.2.1 x (by omega) (fun q => by have := dT x q; omega)
  have nD : ∀ x j, (x, j) ≠ (50, 2) → (x, j) ≠ (64, 0) → (x, j) ∉ D := fun x j h1 h2 q => by rcases hD _ q with z | z <;> contradiction
  refine ⟨⟨FX_W f (fun q hq => ?_) hk w, by omega⟩, CK_fx f hk (fun x hx => ?_) (fun x hx => ?_) hD k1, ?_, ⟨by omega, ne⟩, ⟨?_, ?_, ?_⟩, ?_, ?_, ?_, ?_, wy, sp⟩
  · rcases hD q hq with z | z <;> rw [z] <;> decide
  · have := dS x hx; unfold okC; simp; omega
  · have := dT x hx; unfold okC; simp; omega
  · obtain ⟨⟨A1, L1, n1, n2, kk⟩, tt, m, t6, m6, k8', k9', ST, SH⟩ := k2
    obtain ⟨⟨l1, l2, l3, l4⟩, ⟨m1, m2, m3, m4⟩, ⟨da, db, dc, dd⟩, nab⟩ := L1
    have ec : kI h' c = kI h c := f.2.1 c (by omega) (fun q => by
      rcases hS c q with z | z | z
      · unfold isD at dc; omega
      · unfold isD at dc; omega
      · exact z.2.1 rfl)
    have ed : kI h' d = kI h d := f.2.1 d (by omega) (fun q => by
      rcases hS d q with z | z | z
      · unfold isD at dd; omega
      · unfold isD at dd; omega
      · exact z.2.2 rfl)
    have ea : kL h' a = kL h a := f.2.2.1 a (by omega) (fun q => (hT a q).2.1 rfl)
    have eb : kL h' b = kL h b := f.2.2.1 b (by omega) (fun q => (hT b q).2.2 rfl)
    have r55 : ∀ j, kR h' 55 j = kR h 55 j := fun j => f.2.2.2.2 55 j (by omega) (nD 55 j (by simp) (by simp))
    refine ⟨⟨?_, ⟨⟨by rw [r55]; exact l1, by rw [r55]; exact l2, by rw [r55]; exact l3, by rw [r55]; exact l4⟩, ⟨by rw [f.2.2.2.1 a (by omega)]; exact m1, by rw [f.2.2.2.1 b (by omega)]; exact m2, by rw [f.2.2.2.1 c (by omega)]; exact m3, by rw [f.2.2.2.1 d (by omega)]; exact m4⟩, ⟨da, db, dc, dd⟩, nab⟩, n1, n2, by rw [r55]; exact kk⟩, tt, m, t6, m6, by rw [eI 55 (by omega) (by omega)]; exact k8', by rw [eI 55 (by omega) (by omega)]; exact k9', ?_, ?_⟩
    · unfold AMS
      rw [eI 56 (by omega) (by omega), eI 57 (by omega) (by omega)]; exact A1
    · exact SWT_keep (fun p _ => by rw [ea, eb, ec]; exact ⟨rfl, rfl, rfl⟩) ST
    · exact SWH_keep (fun p _ => by rw [ed]) SH
  · rw [f.2.2.2.2 1 1 (by omega) (nD 1 1 (by simp) (by simp))]; exact k4
  · unfold Zg at k5 ⊢; rw [eI _ (by omega) (by omega), eL _ (by omega) (by omega), eL _ (by omega) (by omega)]; exact k5
  · unfold Zg at k6 ⊢; rw [eI _ (by omega) (by omega), eL _ (by omega) (by omega), eL _ (by omega) (by omega)]; exact k6
  · rw [eI 27 (by omega) (by omega), eI 26 (by omega) (by omega)]; exact k7
  · rw [eI 1 (by omega) (by omega)]; exact k8
  · exact CLo_eq (eI 62 (by omega) (by omega)) (eI 63 (by omega) (by omega)) (eL 62 (by omega) (by omega)) k9
  · unfold CT at k10 ⊢; rw [eI 50 (by omega) (by omega), eI 53 (by omega) (by omega)]; exact k10
theorem cq_say (hr : 8 ≤ r) (K : CI h t fp B nn P C A ls lk wr T sd) (W : WFA t B nn P C A ls T sd) (H : ∀ h', CI h' t fp B nn P C A ls lk wr T (alT B P C (laN B P C) C.length) → FG h h' → Q (exC ecN (.inl (nI (alT B P C (laN B P C) C.length).length))) h') : kCalls r yX11_say [.ref 1] h Q := by
  have r2 : 2 ≤ r := by omega
  obtain ⟨g, a, b, c, d, N, e, s, K0⟩ := K
  obtain ⟨⟨w, hk⟩, k1, k2, k3, _, _, _, _, _, wy, sp⟩ := id K0
  obtain ⟨_, X, KA, TBs, Tb, RUs, NUs, Z, KUs⟩ := id k1
  obtain ⟨hP, hC, hsg, _⟩ := W.1
  have h12 := hC.1
  have lal := laN_lt (B := B) (P := P) h12
  refine sX11_say _ ?_
  refine eX11_say_0 ?_
  simp only [ks_nop, ks_aload_0, ks_get0, ks_get3, ks_get1, ks_get2, ks_inv0, ks_inv1, ks_inv2, ks_inv4, ks_inv3, ks_inv5, ks_inv6, ks_inv7, ks_inv8, ks_iret0, kldi_0, kldl_0, klda_0, kldz_0, kst1_0, kst2_0, kpr_r, kcat_n, kcat_i, kcat_r, kcat_z, kcat_l, kargs_0, kargs_s, kret_v, kret_n, kret_x, jX11_say_0, bX11_say_0, Nat.reduceAdd, Nat.reduceLeDiff, Nat.reduceEqDiff, Nat.reduceSub, Nat.zero_le, Nat.add_left_cancel_iff, true_and, and_true, if_true, if_false, reduceIte, ne_eq, not_false_eq_true, Nat.add_eq_left, Nat.left_eq_add, kI_sI, kL_sI, kR_sI, kK_sI, kI_sL, kL_sL, kR_sL, kK_sL, kI_sIA, kL_sIA, kR_sIA, kK_sIA, kI_sLA, kL_sLA, kR_sLA, kK_sLA, wK_1 w, wR_1_3 w, wR_1_4 w, wR_1_5 w, wR_1_6 w, wR_1_7 w, wR_1_8 w, wR_1_9 w, wR_1_10 w, wR_1_11 w, wR_1_12 w, wK_46 w, wK_64 w, r2]
  refine c_lasting w KUs ?_
  simp only [ks_nop, ks_aload_0, ks_get0, ks_get3, ks_get1, ks_get2, ks_inv0, ks_inv1, ks_inv2, ks_inv4, ks_inv3, ks_inv5, ks_inv6, ks_inv7, ks_inv8, ks_iret0, kldi_0, kldl_0, klda_0, kldz_0, kst1_0, kst2_0, kpr_r, kcat_n, kcat_i, kcat_r, kcat_z, kcat_l, kargs_0, kargs_s, kret_v, kret_n, kret_x, jX11_say_0, bX11_say_0, Nat.reduceAdd, Nat.reduceLeDiff, Nat.reduceEqDiff, Nat.reduceSub, Nat.zero_le, Nat.add_left_cancel_iff, true_and, and_true, if_true, if_false, reduceIte, ne_eq, not_false_eq_true, Nat.add_eq_left, Nat.left_eq_add, kI_sI, kL_sI, kR_sI, kK_sI, kI_sL, kL_sL, kR_sL, kK_sL, kI_sIA, kL_sIA, kR_sIA, kK_sIA, kI_sLA, kL_sLA, kR_sLA, kK_sLA, wK_64 w, r2]
  refine c_Xwrite (by omega) w hk hC RUs sp lal (fun y hy => laN_nc hy) (fun h2 s2 f2 sp2 alt gr => ?_)
  obtain ⟨⟨d1, d2, d3, d4⟩, n1, n2, n3, n4⟩ := k3
  have ds2 := sp2.2.1
  have ds2' := ds2
  unfold isD at ds2'
  obtain ⟨y1, y2, y3, y4⟩ := wy
  have y3' := y3
  unfold isD at y3'
  have hN := f2.1
  have wy2 : WY h2 e := ⟨by rw [f2.2.2.2.2 50 2 (by omega) (by simp)]; exact y1, by rw [f2.2.2.2.1 e (by omega)]; exact y2, y3, by omega⟩
  have K2 := CI_fx (sd' := alT B P C (laN B P C) C.length) f2 (fun x hx => by
    simp at hx
    rcases hx with q | q
    · exact Or.inr (Or.inl q)
    · rw [q]; exact Or.inr (Or.inr ⟨ds2, by omega, by omega⟩)) (by simp) (fun q hq => by simp at hq; exact Or.inr hq) wy2 sp2 ⟨n1, n2, by omega, by omega⟩ K0
  have w2 := K2.1.1
  have fc := FG_fx f2 hk (fun x hx => by
    simp at hx
    rcases hx with q | q
    · omega
    · omega) (by simp) (by simp) (by rw [k2.1.2.1.1.1]; exact d1) gr
  have sz := sp2.2.2.2.2.1
  have w := w2
  simp only [ks_nop, ks_aload_0, ks_get0, ks_get3, ks_get1, ks_get2, ks_inv0, ks_inv1, ks_inv2, ks_inv4, ks_inv3, ks_inv5, ks_inv6, ks_inv7, ks_inv8, ks_iret0, kldi_0, kldl_0, klda_0, kldz_0, kst1_0, kst2_0, kpr_r, kcat_n, kcat_i, kcat_r, kcat_z, kcat_l, kargs_0, kargs_s, kret_v, kret_n, kret_x, jX11_say_0, bX11_say_0, Nat.reduceAdd, Nat.reduceLeDiff, Nat.reduceEqDiff, Nat.reduceSub, Nat.zero_le, Nat.add_left_cancel_iff, true_and, and_true, if_true, if_false, reduceIte, ne_eq, not_false_eq_true, Nat.add_eq_left, Nat.left_eq_add, kI_sI, kL_sI, kR_sI, kK_sI, kI_sL, kL_sL, kR_sL, kK_sL, kI_sIA, kL_sIA, kR_sIA, kK_sIA, kI_sLA, kL_sLA, kR_sLA, kK_sLA, wK_1 w, wR_1_3 w, wR_1_4 w, wR_1_5 w, wR_1_6 w, wR_1_7 w, wR_1_8 w, wR_1_9 w, wR_1_10 w, wR_1_11 w, wR_1_12 w, wK_64 w, r2]
  refine sX7_size _ ?_
  refine eX7_size_0 ?_
  simp only [ks_nop, ks_aload_0, ks_get0, ks_get3, ks_get1, ks_get2, ks_iret0, kldi_0, kldl_0, klda_0, kldz_0, kst1_0, kst2_0, kcat_n, kcat_i, kcat_r, kcat_z, kcat_l, jX7_size_0, bX7_size_0, Nat.reduceAdd, Nat.reduceLeDiff, Nat.reduceEqDiff, Nat.reduceSub, Nat.zero_le, Nat.add_left_cancel_iff, true_and, and_true, if_true, if_false, reduceIte, ne_eq, not_false_eq_true, Nat.add_eq_left, Nat.left_eq_add, wK_64 w, sz]
  refine ⟨False.elim, ?_⟩
  simp only [ks_nop, ks_aload_0, ks_get0, ks_get3, ks_get1, ks_get2, ks_inv0, ks_inv1, ks_inv2, ks_inv4, ks_inv3, ks_inv5, ks_inv6, ks_inv7, ks_inv8, ks_iret0, kldi_0, kldl_0, klda_0, kldz_0, kst1_0, kst2_0, kpr_r, kcat_n, kcat_i, kcat_r, kcat_z, kcat_l, kargs_0, kargs_s, kret_v, kret_n, kret_x, jX11_say_0, bX11_say_0, Nat.reduceAdd, Nat.reduceLeDiff, Nat.reduceEqDiff, Nat.reduceSub, Nat.zero_le, Nat.add_left_cancel_iff, true_and, and_true, if_true, if_false, reduceIte, ne_eq, not_false_eq_true, Nat.add_eq_left, Nat.left_eq_add, kI_sI, kL_sI, kR_sI, kK_sI, kI_sL, kL_sL, kR_sL, kK_sL, kI_sIA, kL_sIA, kR_sIA, kK_sIA, kI_sLA, kL_sLA, kR_sLA, kK_sLA]
  exact ⟨False.elim, H h2 ⟨g, a, b, c, d, N, e, s2, K2⟩ fc⟩
theorem cq_said {i : Int32} (hr : 8 ≤ r) (K : CI h t fp B nn P C A ls lk wr T sd) (W : WFA t B nn P C A ls T sd) (H : ∀ h', CI h' t fp B nn P C A ls lk wr T sd → FG h h' → Q (exC ecN (rSaid sd i)) h') : kCalls r yX11_said [.ref 1, .int i] h Q := by
  have r2 : 2 ≤ r := by omega
  have K0 := K
  obtain ⟨g, a, b, c, d, N, e, s, ⟨w, hk⟩, _, _, _, _, _, _, _, _, _, ⟨p1, p2, p3, p4', p5, p6⟩⟩ := K
  have sl := W.2.2.2.2.1
  have s0 := isD_0 p2
  have good := H h K0 (FG_rf h)
  have fin : ∀ v, Q (.inl (some (.int v))) h → kRun (r - 1) mX7_at 22 [some (.ref 64), some (.int i)] [.int v] h (kret (kwp r mX11_said Q 397) [(8, 1, .ireturn, kz)] [some (.ref 1), some (.int i)] [] (kx r mX11_said Q (kwp r mX11_said Q 397) [some (.ref 1), some (.int i)])) → True := fun _ _ _ => trivial
  clear fin
  refine sX11_said _ _ ?_
  refine eX11_said_0 ?_
  simp only [ks_nop, ks_aload_0, ks_iload_1, ks_get0, ks_get3, ks_get1, ks_get2, ks_inv0, ks_inv1, ks_inv2, ks_inv4, ks_inv3, ks_inv5, ks_inv6, ks_inv7, ks_inv8, ks_iret0, kldi_0, kldl_0, klda_0, kldz_0, kst1_0, kst2_0, kldi_1, kldl_1, klda_1, kldz_1, kst1_1n, kst2_1n, kst1_1i, kst2_1i, kst1_1r, kst2_1r, kst1_1z, kst2_1z, kst1_1l, kst2_1l, kpr_r, kcat_n, kcat_i, kcat_r, kcat_z, kcat_l, kargs_0, kargs_s, kret_v, kret_n, kret_x, jX11_said_0, bX11_said_0, Nat.reduceAdd, Nat.reduceLeDiff, Nat.reduceEqDiff, Nat.reduceSub, Nat.zero_le, Nat.add_left_cancel_iff, true_and, and_true, if_true, if_false, reduceIte, ne_eq, not_false_eq_true, Nat.add_eq_left, Nat.left_eq_add, kI_sI, kL_sI, kR_sI, kK_sI, kI_sL, kL_sL, kR_sL, kK_sL, kI_sIA, kL_sIA, kR_sIA, kK_sIA, kI_sLA, kL_sLA, kR_sLA, kK_sLA, wK_1 w, wR_1_3 w, wR_1_4 w, wR_1_5 w, wR_1_6 w, wR_1_7 w, wR_1_8 w, wR_1_9 w, wR_1_10 w, wR_1_11 w, wR_1_12 w, wK_64 w, r2]
  have at1 : ∀ Q' : KO → KH → Prop, (∀ v, rSaid sd i = .inl v → Q' (.inl (some (.int v))) h) → kCalls (r - 1) yX7_at [.ref 64, .int i] h Q' := by
    intro Q' HQ
    have e22 : ∀ v, rSaid sd i = .inl v → kRun (r - 1) mX7_at 22 [some (.ref 64), some (.int i)] [.int v] h Q' := by
      intro v ev
      refine eX7_at_22 ?_
      simp only [ks_nop, ks_aload_0, ks_iload_1, ks_iconst, ks_if_lt, ks_icmp_ge, ks_goto, ks_get0, ks_get3, ks_get1, ks_get2, ks_bald, ks_iret0, kldi_0, kldl_0, klda_0, kldz_0, kst1_0, kst2_0, kldi_1, kldl_1, klda_1, kldz_1, kst1_1n, kst2_1n, kst1_1i, kst2_1i, kst1_1r, kst2_1r, kst1_1z, kst2_1z, kst1_1l, kst2_1l, kcat_n, kcat_i, kcat_r, kcat_z, kcat_l, jX7_at_0, bX7_at_0, jX7_at_21, bX7_at_21, jX7_at_22, bX7_at_22, Nat.reduceAdd, Nat.reduceLeDiff, Nat.reduceEqDiff, Nat.reduceSub, Nat.zero_le, Nat.add_left_cancel_iff, true_and, and_true, if_true, if_false, reduceIte, ne_eq, not_false_eq_true, Nat.add_eq_left, Nat.left_eq_add, kI_sI, kL_sI, kR_sI, kK_sI, kI_sL, kL_sL, kR_sL, kK_sL, kI_sIA, kL_sIA, kR_sIA, kK_sIA, kI_sLA, kL_sLA, kR_sLA, kK_sLA]
      try simp (disch := omega) only [a_0, a_1, a_L0, a_L1, a_lt, a_le, a_eq, a_sub, a_addn, nI_add, pk_mul, a_in, nI_clamp, a_eqn, a_eqn', a_eqn2, a_n12, eq_self, a_ltn, a_ltn', a_len, a_len', a_shl1, z_shr, fa_and, fa_or, a_tb, a_tb0, a_b0, a_b1, a_bi, a_lc0, a_lcle, a_lcge, a_lclt, a_lcgt, upd_at, upd_ne, updL_at, updL_ne, Nat.reduceAdd, Nat.reduceSub, Nat.reduceMul, Nat.reduceLT, Nat.reduceLeDiff, Nat.reduceEqDiff, true_and, and_true, if_true, if_false, reduceIte, ne_eq, not_false_eq_true, not_true_eq_false, true_implies, false_implies, Nat.not_lt, Nat.not_le, Nat.le_refl, Nat.add_sub_cancel, Nat.lt_irrefl, Nat.not_lt_zero, Nat.zero_le, Nat.testBit_shiftRight, Nat.add_zero, reduceCtorEq, true_or, or_true, or_false, false_or, Bool.true_eq_false, Bool.false_eq_true, Bool.not_eq_false, Bool.not_eq_true, Decidable.not_not]
      repeat (first | refine ⟨fun _ => ?_, fun c => absurd c (by omega)⟩ | refine ⟨fun c => absurd c (by omega), fun _ => ?_⟩)
      first | exact HQ v ev | exact ⟨False.elim, HQ v ev⟩
    have no : ¬ (nI 0 ≤ i ∧ i < nI sd.length) → kRun (r - 1) mX7_at 21 [some (.ref 64), some (.int i)] [] h Q' := by
      intro z
      refine eX7_at_21 ?_
      simp only [ks_nop, ks_aload_0, ks_iload_1, ks_iconst, ks_if_lt, ks_icmp_ge, ks_goto, ks_get0, ks_get3, ks_get1, ks_get2, ks_bald, ks_iret0, kldi_0, kldl_0, klda_0, kldz_0, kst1_0, kst2_0, kldi_1, kldl_1, klda_1, kldz_1, kst1_1n, kst2_1n, kst1_1i, kst2_1i, kst1_1r, kst2_1r, kst1_1z, kst2_1z, kst1_1l, kst2_1l, kcat_n, kcat_i, kcat_r, kcat_z, kcat_l, jX7_at_0, bX7_at_0, jX7_at_21, bX7_at_21, jX7_at_22, bX7_at_22, Nat.reduceAdd, Nat.reduceLeDiff, Nat.reduceEqDiff, Nat.reduceSub, Nat.zero_le, Nat.add_left_cancel_iff, true_and, and_true, if_true, if_false, reduceIte, ne_eq, not_false_eq_true, Nat.add_eq_left, Nat.left_eq_add, kI_sI, kL_sI, kR_sI, kK_sI, kI_sL, kL_sL, kR_sL, kK_sL, kI_sIA, kL_sIA, kR_sIA, kK_sIA, kI_sLA, kL_sLA, kR_sLA, kK_sLA]
      try simp (disch := omega) only [a_0, a_1, a_L0, a_L1, a_lt, a_le, a_eq, a_sub, a_addn, nI_add, pk_mul, a_in, nI_clamp, a_eqn, a_eqn', a_eqn2, a_n12, eq_self, a_ltn, a_ltn', a_len, a_len', a_shl1, z_shr, fa_and, fa_or, a_tb, a_tb0, a_b0, a_b1, a_bi, a_lc0, a_lcle, a_lcge, a_lclt, a_lcgt, upd_at, upd_ne, updL_at, updL_ne, Nat.reduceAdd, Nat.reduceSub, Nat.reduceMul, Nat.reduceLT, Nat.reduceLeDiff, Nat.reduceEqDiff, true_and, and_true, if_true, if_false, reduceIte, ne_eq, not_false_eq_true, not_true_eq_false, true_implies, false_implies, Nat.not_lt, Nat.not_le, Nat.le_refl, Nat.add_sub_cancel, Nat.lt_irrefl, Nat.not_lt_zero, Nat.zero_le, Nat.testBit_shiftRight, Nat.add_zero, reduceCtorEq, true_or, or_true, or_false, false_or, Bool.true_eq_false, Bool.false_eq_true, Bool.not_eq_false, Bool.not_eq_true, Decidable.not_not]
      repeat (first | refine ⟨fun _ => ?_, fun c => absurd c (by omega)⟩ | refine ⟨fun c => absurd c (by omega), fun _ => ?_⟩)
      refine e22 _ ?_
      unfold rSaid
      rw [if_neg z]
    refine sX7_at _ _ ?_
    refine eX7_at_0 ?_
    simp only [ks_nop, ks_aload_0, ks_iload_1, ks_iconst, ks_if_lt, ks_icmp_ge, ks_goto, ks_get0, ks_get3, ks_get1, ks_get2, ks_bald, ks_iret0, kldi_0, kldl_0, klda_0, kldz_0, kst1_0, kst2_0, kldi_1, kldl_1, klda_1, kldz_1, kst1_1n, kst2_1n, kst1_1i, kst2_1i, kst1_1r, kst2_1r, kst1_1z, kst2_1z, kst1_1l, kst2_1l, kcat_n, kcat_i, kcat_r, kcat_z, kcat_l, jX7_at_0, bX7_at_0, jX7_at_21, bX7_at_21, jX7_at_22, bX7_at_22, Nat.reduceAdd, Nat.reduceLeDiff, Nat.reduceEqDiff, Nat.reduceSub, Nat.zero_le, Nat.add_left_cancel_iff, true_and, and_true, if_true, if_false, reduceIte, ne_eq, not_false_eq_true, Nat.add_eq_left, Nat.left_eq_add, kI_sI, kL_sI, kR_sI, kK_sI, kI_sL, kL_sL, kR_sL, kK_sL, kI_sIA, kL_sIA, kR_sIA, kK_sIA, kI_sLA, kL_sLA, kR_sLA, kK_sLA, wK_64 w, p5]
    refine ⟨fun q => no (fun z => absurd q (Int32.not_lt.mpr z.1)), fun q => ⟨fun q2 => no (fun z => absurd z.2 (Int32.not_lt.mpr q2)), fun q2 => ?_⟩⟩
    have q1 : nI 0 ≤ i ∧ i < nI sd.length := ⟨Int32.not_lt.mp q, by
      rcases Classical.em (i < nI sd.length) with z | z
      · exact z
      · exact absurd (Int32.not_lt.mp z) q2⟩
    obtain ⟨m, em, hm⟩ := i_lt (by omega) q1.1 q1.2
    have ev : rSaid sd i = .inl (nI (sd.getD m 0)) := by
      unfold rSaid
      rw [if_pos q1, em, nI_clamp (by omega)]
    subst em
    have kk : kK h s = (3, 5316) := by
      rcases p4' with ⟨_, z⟩ | z
      · rw [z] at hm; simp at hm
      · exact z
    have pm := p6 m hm
    simp only [p1, s0, kk, not_false_eq_true, true_and]
    try simp (disch := omega) only [a_0, a_1, a_L0, a_L1, a_lt, a_le, a_eq, a_sub, a_addn, nI_add, pk_mul, a_in, nI_clamp, a_eqn, a_eqn', a_eqn2, a_n12, eq_self, a_ltn, a_ltn', a_len, a_len', a_shl1, z_shr, fa_and, fa_or, a_tb, a_tb0, a_b0, a_b1, a_bi, a_lc0, a_lcle, a_lcge, a_lclt, a_lcgt, upd_at, upd_ne, updL_at, updL_ne, Nat.reduceAdd, Nat.reduceSub, Nat.reduceMul, Nat.reduceLT, Nat.reduceLeDiff, Nat.reduceEqDiff, true_and, and_true, if_true, if_false, reduceIte, ne_eq, not_false_eq_true, not_true_eq_false, true_implies, false_implies, Nat.not_lt, Nat.not_le, Nat.le_refl, Nat.add_sub_cancel, Nat.lt_irrefl, Nat.not_lt_zero, Nat.zero_le, Nat.testBit_shiftRight, Nat.add_zero, reduceCtorEq, true_or, or_true, or_false, false_or, Bool.true_eq_false, Bool.false_eq_true, Bool.not_eq_false, Bool.not_eq_true, Decidable.not_not, pm, true_or]
    exact e22 _ ev
  refine at1 _ (fun v ev => ?_)
  rw [ev] at good
  simp only [ks_nop, ks_aload_0, ks_iload_1, ks_get0, ks_get3, ks_get1, ks_get2, ks_inv0, ks_inv1, ks_inv2, ks_inv4, ks_inv3, ks_inv5, ks_inv6, ks_inv7, ks_inv8, ks_iret0, kldi_0, kldl_0, klda_0, kldz_0, kst1_0, kst2_0, kldi_1, kldl_1, klda_1, kldz_1, kst1_1n, kst2_1n, kst1_1i, kst2_1i, kst1_1r, kst2_1r, kst1_1z, kst2_1z, kst1_1l, kst2_1l, kpr_r, kcat_n, kcat_i, kcat_r, kcat_z, kcat_l, kargs_0, kargs_s, kret_v, kret_n, kret_x, jX11_said_0, bX11_said_0, Nat.reduceAdd, Nat.reduceLeDiff, Nat.reduceEqDiff, Nat.reduceSub, Nat.zero_le, Nat.add_left_cancel_iff, true_and, and_true, if_true, if_false, reduceIte, ne_eq, not_false_eq_true, Nat.add_eq_left, Nat.left_eq_add, kI_sI, kL_sI, kR_sI, kK_sI, kI_sL, kL_sL, kR_sL, kK_sL, kI_sIA, kL_sIA, kR_sIA, kK_sIA, kI_sLA, kL_sLA, kR_sLA, kK_sLA]
  exact ⟨False.elim, good⟩
theorem cq_treed {i k : Int32} (hr : 9 ≤ r) (K : CI h t fp B nn P C A ls lk wr T sd) (W : WFA t B nn P C A ls T sd) (H : ∀ h', CI h' t fp B nn P C A ls lk wr T sd → FG h h' → Q (exC ecN (rTreed T i k)) h') : kCalls r yX11_treed [.ref 1, .int i, .int k] h Q := by
  have r2 : 2 ≤ r := by omega
  have r8 : 8 ≤ r := by omega
  have r28 : 2 ≤ r - 1 := by omega
  have K0 := K
  obtain ⟨g, a, b, c, d, N, e, s, ⟨w, hk⟩, _, _, _, _, _, _, _, ct, _⟩ := K
  obtain ⟨tl, tb⟩ := W.2.2.2.1
  have bad : ¬ ((nI 0 ≤ i ∧ i < nI T.length) ∧ (nI 0 ≤ k ∧ k ≤ nI 2)) → Q (.inr kNE) (kexc h) := by
    intro z
    have := H (kexc h) (CI_exc K0) (FG_exc h)
    unfold rTreed at this
    rw [if_neg z] at this
    exact this
  have no : ¬ (nI 0 ≤ i ∧ i < nI T.length) → kRun r mX11_treed 15 [some (.ref 1), some (.int i), some (.int k)] [] h Q := by
    intro z
    refine eX11_treed_15 ?_
    simp only [ks_nop, ks_aload_0, ks_iload_1, ks_iload_2, ks_ldc, ks_ldc_w, ks_dup_i, ks_dup_r, ks_if_lt, ks_icmp_lt, ks_switch, ks_get0, ks_get3, ks_get1, ks_get2, ks_new, ks_inv0, ks_inv1, ks_inv2, ks_inv4, ks_inv3, ks_inv5, ks_inv6, ks_inv7, ks_inv8, ks_iret0, ks_throw, kldi_0, kldl_0, klda_0, kldz_0, kst1_0, kst2_0, kldi_1, kldl_1, klda_1, kldz_1, kst1_1n, kst2_1n, kst1_1i, kst2_1i, kst1_1r, kst2_1r, kst1_1z, kst2_1z, kst1_1l, kst2_1l, kldi_2, kldl_2, klda_2, kldz_2, kst1_2n, kst2_2n, kst1_2i, kst2_2i, kst1_2r, kst2_2r, kst1_2z, kst2_2z, kst1_2l, kst2_2l, kpr_r, kcat_n, kcat_i, kcat_r, kcat_z, kcat_l, kargs_0, kargs_s, kret_v, kret_n, kret_x, jX11_treed_0, bX11_treed_0, jX11_treed_15, bX11_treed_15, jX11_treed_26, bX11_treed_26, jX11_treed_52, bX11_treed_52, jX11_treed_61, bX11_treed_61, jX11_treed_70, bX11_treed_70, jX11_treed_79, bX11_treed_79, Nat.reduceAdd, Nat.reduceLeDiff, Nat.reduceEqDiff, Nat.reduceSub, Nat.zero_le, Nat.add_left_cancel_iff, true_and, and_true, if_true, if_false, reduceIte, ne_eq, not_false_eq_true, Nat.add_eq_left, Nat.left_eq_add, kI_sI, kL_sI, kR_sI, kK_sI, kI_sL, kL_sL, kR_sL, kK_sL, kI_sIA, kL_sIA, kR_sIA, kK_sIA, kI_sLA, kL_sLA, kR_sLA, kK_sLA, r8]
    exact bad (fun q => z q.1)
  refine sX11_treed _ _ _ ?_
  refine eX11_treed_0 ?_
  simp only [ks_nop, ks_aload_0, ks_iload_1, ks_iload_2, ks_ldc, ks_ldc_w, ks_dup_i, ks_dup_r, ks_if_lt, ks_icmp_lt, ks_switch, ks_get0, ks_get3, ks_get1, ks_get2, ks_new, ks_inv0, ks_inv1, ks_inv2, ks_inv4, ks_inv3, ks_inv5, ks_inv6, ks_inv7, ks_inv8, ks_iret0, ks_throw, kldi_0, kldl_0, klda_0, kldz_0, kst1_0, kst2_0, kldi_1, kldl_1, klda_1, kldz_1, kst1_1n, kst2_1n, kst1_1i, kst2_1i, kst1_1r, kst2_1r, kst1_1z, kst2_1z, kst1_1l, kst2_1l, kldi_2, kldl_2, klda_2, kldz_2, kst1_2n, kst2_2n, kst1_2i, kst2_2i, kst1_2r, kst2_2r, kst1_2z, kst2_2z, kst1_2l, kst2_2l, kpr_r, kcat_n, kcat_i, kcat_r, kcat_z, kcat_l, kargs_0, kargs_s, kret_v, kret_n, kret_x, jX11_treed_0, bX11_treed_0, jX11_treed_15, bX11_treed_15, jX11_treed_26, bX11_treed_26, jX11_treed_52, bX11_treed_52, jX11_treed_61, bX11_treed_61, jX11_treed_70, bX11_treed_70, jX11_treed_79, bX11_treed_79, Nat.reduceAdd, Nat.reduceLeDiff, Nat.reduceEqDiff, Nat.reduceSub, Nat.zero_le, Nat.add_left_cancel_iff, true_and, and_true, if_true, if_false, reduceIte, ne_eq, not_false_eq_true, Nat.add_eq_left, Nat.left_eq_add, kI_sI, kL_sI, kR_sI, kK_sI, kI_sL, kL_sL, kR_sL, kK_sL, kI_sIA, kL_sIA, kR_sIA, kK_sIA, kI_sLA, kL_sLA, kR_sLA, kK_sLA, wK_1 w, wR_1_3 w, wR_1_4 w, wR_1_5 w, wR_1_6 w, wR_1_7 w, wR_1_8 w, wR_1_9 w, wR_1_10 w, wR_1_11 w, wR_1_12 w, wK_50 w, r2]
  refine ⟨fun q => no (fun z => absurd q (Int32.not_lt.mpr z.1)), fun q => ?_⟩
  refine c_nodes w ct ?_
  simp only [ks_nop, ks_aload_0, ks_iload_1, ks_iload_2, ks_ldc, ks_ldc_w, ks_dup_i, ks_dup_r, ks_if_lt, ks_icmp_lt, ks_switch, ks_get0, ks_get3, ks_get1, ks_get2, ks_new, ks_inv0, ks_inv1, ks_inv2, ks_inv4, ks_inv3, ks_inv5, ks_inv6, ks_inv7, ks_inv8, ks_iret0, ks_throw, kldi_0, kldl_0, klda_0, kldz_0, kst1_0, kst2_0, kldi_1, kldl_1, klda_1, kldz_1, kst1_1n, kst2_1n, kst1_1i, kst2_1i, kst1_1r, kst2_1r, kst1_1z, kst2_1z, kst1_1l, kst2_1l, kldi_2, kldl_2, klda_2, kldz_2, kst1_2n, kst2_2n, kst1_2i, kst2_2i, kst1_2r, kst2_2r, kst1_2z, kst2_2z, kst1_2l, kst2_2l, kpr_r, kcat_n, kcat_i, kcat_r, kcat_z, kcat_l, kargs_0, kargs_s, kret_v, kret_n, kret_x, jX11_treed_0, bX11_treed_0, jX11_treed_15, bX11_treed_15, jX11_treed_26, bX11_treed_26, jX11_treed_52, bX11_treed_52, jX11_treed_61, bX11_treed_61, jX11_treed_70, bX11_treed_70, jX11_treed_79, bX11_treed_79, Nat.reduceAdd, Nat.reduceLeDiff, Nat.reduceEqDiff, Nat.reduceSub, Nat.zero_le, Nat.add_left_cancel_iff, true_and, and_true, if_true, if_false, reduceIte, ne_eq, not_false_eq_true, Nat.add_eq_left, Nat.left_eq_add, kI_sI, kL_sI, kR_sI, kK_sI, kI_sL, kL_sL, kR_sL, kK_sL, kI_sIA, kL_sIA, kR_sIA, kK_sIA, kI_sLA, kL_sLA, kR_sLA, kK_sLA]
  refine ⟨fun q2 => ?_, fun q2 => no (fun z => absurd z.2 q2)⟩
  have q1 : nI 0 ≤ i ∧ i < nI T.length := ⟨Int32.not_lt.mp q, q2⟩
  obtain ⟨m, em, hm⟩ := i_lt (by omega) q1.1 q1.2
  have cm := ct.2 m hm
  have bm := tb m hm
  by_cases q3 : nI 0 ≤ k ∧ k ≤ nI 2
  · have good := H h K0 (FG_rf h)
    unfold rTreed at good
    rw [if_pos ⟨q1, q3⟩] at good
    obtain ⟨j, ej, _, hj⟩ := i_num (by omega) q3.1 q3.2 (by omega)
    subst em ej
    rw [nI_clamp (by omega), nI_clamp (by omega)] at good
    generalize gT3 T m = G at cm bm good
    obtain ⟨x, i0, n0⟩ := G
    simp only at cm bm good
    obtain ⟨d1, d2, d3, d4⟩ := en3_dec (x := x) (i := i0) (j := i0 + n0) (by omega) (by omega) (by omega)
    generalize en3 x i0 (i0 + n0) = ev at cm d1 d2 d3 d4
    have start : ∀ {r' : Nat} {Q' : KO → KH → Prop}, Q' (.inl (some (.int (nI i0)))) h → kCalls r' yX3_nodeStart [.ref 50, .int (nI m)] h Q' := by
      intro r' Q' HQ
      refine sX3_nodeStart _ _ ?_
      refine eX3_nodeStart_0 ?_
      simp only [ks_nop, ks_aload_0, ks_iload_1, ks_iconst, ks_bipush, ks_iand, ks_ishr, ks_get0, ks_get3, ks_get1, ks_get2, ks_iald, ks_sld, ks_iret0, kldi_0, kldl_0, klda_0, kldz_0, kst1_0, kst2_0, kldi_1, kldl_1, klda_1, kldz_1, kst1_1n, kst2_1n, kst1_1i, kst2_1i, kst1_1r, kst2_1r, kst1_1z, kst2_1z, kst1_1l, kst2_1l, kcat_n, kcat_i, kcat_r, kcat_z, kcat_l, zl_5, zl_31, jX3_nodeStart_0, bX3_nodeStart_0, Nat.reduceAdd, Nat.reduceLeDiff, Nat.reduceEqDiff, Nat.reduceSub, Nat.zero_le, Nat.add_left_cancel_iff, true_and, and_true, if_true, if_false, reduceIte, ne_eq, not_false_eq_true, Nat.add_eq_left, Nat.left_eq_add, kI_sI, kL_sI, kR_sI, kK_sI, kI_sL, kL_sL, kR_sL, kK_sL, kI_sIA, kL_sIA, kR_sIA, kK_sIA, kI_sLA, kL_sLA, kR_sLA, kK_sLA, wK_50 w, wR_50_0 w, wR_50_1 w, wR_50_3 w, wR_50_4 w, wK_51 w, wK_53 w, wK_54 w]
      try simp (disch := omega) only [a_0, a_1, a_L0, a_L1, a_lt, a_le, a_eq, a_sub, a_addn, nI_add, pk_mul, a_in, nI_clamp, a_eqn, a_eqn', a_eqn2, a_n12, eq_self, a_ltn, a_ltn', a_len, a_len', a_shl1, z_shr, fa_and, fa_or, a_tb, a_tb0, a_b0, a_b1, a_bi, a_lc0, a_lcle, a_lcge, a_lclt, a_lcgt, upd_at, upd_ne, updL_at, updL_ne, Nat.reduceAdd, Nat.reduceSub, Nat.reduceMul, Nat.reduceLT, Nat.reduceLeDiff, Nat.reduceEqDiff, true_and, and_true, if_true, if_false, reduceIte, ne_eq, not_false_eq_true, not_true_eq_false, true_implies, false_implies, Nat.not_lt, Nat.not_le, Nat.le_refl, Nat.add_sub_cancel, Nat.lt_irrefl, Nat.not_lt_zero, Nat.zero_le, Nat.testBit_shiftRight, Nat.add_zero, reduceCtorEq, true_or, or_true, or_false, false_or, Bool.true_eq_false, Bool.false_eq_true, Bool.not_eq_false, Bool.not_eq_true, Decidable.not_not, cm]
      try simp only [d2]
      first | exact HQ | exact ⟨False.elim, HQ⟩
    refine ksw_to (by omega) ?_
    rcases (show j = 0 ∨ j = 1 ∨ j = 2 by omega) with rfl | rfl | rfl
    · show kto _ _ _ _ 52 _ _ _
      simp only [ks_nop, ks_aload_0, ks_iload_1, ks_iload_2, ks_ldc, ks_ldc_w, ks_dup_i, ks_dup_r, ks_if_lt, ks_icmp_lt, ks_switch, ks_get0, ks_get3, ks_get1, ks_get2, ks_new, ks_inv0, ks_inv1, ks_inv2, ks_inv4, ks_inv3, ks_inv5, ks_inv6, ks_inv7, ks_inv8, ks_iret0, ks_throw, kldi_0, kldl_0, klda_0, kldz_0, kst1_0, kst2_0, kldi_1, kldl_1, klda_1, kldz_1, kst1_1n, kst2_1n, kst1_1i, kst2_1i, kst1_1r, kst2_1r, kst1_1z, kst2_1z, kst1_1l, kst2_1l, kldi_2, kldl_2, klda_2, kldz_2, kst1_2n, kst2_2n, kst1_2i, kst2_2i, kst1_2r, kst2_2r, kst1_2z, kst2_2z, kst1_2l, kst2_2l, kpr_r, kcat_n, kcat_i, kcat_r, kcat_z, kcat_l, kargs_0, kargs_s, kret_v, kret_n, kret_x, jX11_treed_0, bX11_treed_0, jX11_treed_15, bX11_treed_15, jX11_treed_26, bX11_treed_26, jX11_treed_52, bX11_treed_52, jX11_treed_61, bX11_treed_61, jX11_treed_70, bX11_treed_70, jX11_treed_79, bX11_treed_79, Nat.reduceAdd, Nat.reduceLeDiff, Nat.reduceEqDiff, Nat.reduceSub, Nat.zero_le, Nat.add_left_cancel_iff, true_and, and_true, if_true, if_false, reduceIte, ne_eq, not_false_eq_true, Nat.add_eq_left, Nat.left_eq_add, kI_sI, kL_sI, kR_sI, kK_sI, kI_sL, kL_sL, kR_sL, kK_sL, kI_sIA, kL_sIA, kR_sIA, kK_sIA, kI_sLA, kL_sLA, kR_sLA, kK_sLA, wK_1 w, wR_1_3 w, wR_1_4 w, wR_1_5 w, wR_1_6 w, wR_1_7 w, wR_1_8 w, wR_1_9 w, wR_1_10 w, wR_1_11 w, wR_1_12 w, wK_50 w, r2]
      refine sX3_nodeContext _ _ ?_
      refine eX3_nodeContext_0 ?_
      simp only [ks_nop, ks_aload_0, ks_iload_1, ks_bipush, ks_ishr, ks_get0, ks_get3, ks_get1, ks_get2, ks_iald, ks_sld, ks_iret0, kldi_0, kldl_0, klda_0, kldz_0, kst1_0, kst2_0, kldi_1, kldl_1, klda_1, kldz_1, kst1_1n, kst2_1n, kst1_1i, kst2_1i, kst1_1r, kst2_1r, kst1_1z, kst2_1z, kst1_1l, kst2_1l, kcat_n, kcat_i, kcat_r, kcat_z, kcat_l, zl_10, jX3_nodeContext_0, bX3_nodeContext_0, Nat.reduceAdd, Nat.reduceLeDiff, Nat.reduceEqDiff, Nat.reduceSub, Nat.zero_le, Nat.add_left_cancel_iff, true_and, and_true, if_true, if_false, reduceIte, ne_eq, not_false_eq_true, Nat.add_eq_left, Nat.left_eq_add, kI_sI, kL_sI, kR_sI, kK_sI, kI_sL, kL_sL, kR_sL, kK_sL, kI_sIA, kL_sIA, kR_sIA, kK_sIA, kI_sLA, kL_sLA, kR_sLA, kK_sLA, wK_50 w, wR_50_0 w, wR_50_1 w, wR_50_3 w, wR_50_4 w, wK_51 w, wK_53 w, wK_54 w]
      try simp (disch := omega) only [a_0, a_1, a_L0, a_L1, a_lt, a_le, a_eq, a_sub, a_addn, nI_add, pk_mul, a_in, nI_clamp, a_eqn, a_eqn', a_eqn2, a_n12, eq_self, a_ltn, a_ltn', a_len, a_len', a_shl1, z_shr, fa_and, fa_or, a_tb, a_tb0, a_b0, a_b1, a_bi, a_lc0, a_lcle, a_lcge, a_lclt, a_lcgt, upd_at, upd_ne, updL_at, updL_ne, Nat.reduceAdd, Nat.reduceSub, Nat.reduceMul, Nat.reduceLT, Nat.reduceLeDiff, Nat.reduceEqDiff, true_and, and_true, if_true, if_false, reduceIte, ne_eq, not_false_eq_true, not_true_eq_false, true_implies, false_implies, Nat.not_lt, Nat.not_le, Nat.le_refl, Nat.add_sub_cancel, Nat.lt_irrefl, Nat.not_lt_zero, Nat.zero_le, Nat.testBit_shiftRight, Nat.add_zero, reduceCtorEq, true_or, or_true, or_false, false_or, Bool.true_eq_false, Bool.false_eq_true, Bool.not_eq_false, Bool.not_eq_true, Decidable.not_not, cm]
      try simp only [d1]
      try refine ⟨False.elim, ?_⟩
      try simp only [ks_nop, ks_aload_0, ks_iload_1, ks_iload_2, ks_ldc, ks_ldc_w, ks_dup_i, ks_dup_r, ks_if_lt, ks_icmp_lt, ks_switch, ks_get0, ks_get3, ks_get1, ks_get2, ks_new, ks_inv0, ks_inv1, ks_inv2, ks_inv4, ks_inv3, ks_inv5, ks_inv6, ks_inv7, ks_inv8, ks_iret0, ks_throw, kldi_0, kldl_0, klda_0, kldz_0, kst1_0, kst2_0, kldi_1, kldl_1, klda_1, kldz_1, kst1_1n, kst2_1n, kst1_1i, kst2_1i, kst1_1r, kst2_1r, kst1_1z, kst2_1z, kst1_1l, kst2_1l, kldi_2, kldl_2, klda_2, kldz_2, kst1_2n, kst2_2n, kst1_2i, kst2_2i, kst1_2r, kst2_2r, kst1_2z, kst2_2z, kst1_2l, kst2_2l, kpr_r, kcat_n, kcat_i, kcat_r, kcat_z, kcat_l, kargs_0, kargs_s, kret_v, kret_n, kret_x, jX11_treed_0, bX11_treed_0, jX11_treed_15, bX11_treed_15, jX11_treed_26, bX11_treed_26, jX11_treed_52, bX11_treed_52, jX11_treed_61, bX11_treed_61, jX11_treed_70, bX11_treed_70, jX11_treed_79, bX11_treed_79, Nat.reduceAdd, Nat.reduceLeDiff, Nat.reduceEqDiff, Nat.reduceSub, Nat.zero_le, Nat.add_left_cancel_iff, true_and, and_true, if_true, if_false, reduceIte, ne_eq, not_false_eq_true, Nat.add_eq_left, Nat.left_eq_add]
      first | exact good | exact ⟨False.elim, good⟩
    · show kto _ _ _ _ 61 _ _ _
      simp only [ks_nop, ks_aload_0, ks_iload_1, ks_iload_2, ks_ldc, ks_ldc_w, ks_dup_i, ks_dup_r, ks_if_lt, ks_icmp_lt, ks_switch, ks_get0, ks_get3, ks_get1, ks_get2, ks_new, ks_inv0, ks_inv1, ks_inv2, ks_inv4, ks_inv3, ks_inv5, ks_inv6, ks_inv7, ks_inv8, ks_iret0, ks_throw, kldi_0, kldl_0, klda_0, kldz_0, kst1_0, kst2_0, kldi_1, kldl_1, klda_1, kldz_1, kst1_1n, kst2_1n, kst1_1i, kst2_1i, kst1_1r, kst2_1r, kst1_1z, kst2_1z, kst1_1l, kst2_1l, kldi_2, kldl_2, klda_2, kldz_2, kst1_2n, kst2_2n, kst1_2i, kst2_2i, kst1_2r, kst2_2r, kst1_2z, kst2_2z, kst1_2l, kst2_2l, kpr_r, kcat_n, kcat_i, kcat_r, kcat_z, kcat_l, kargs_0, kargs_s, kret_v, kret_n, kret_x, jX11_treed_0, bX11_treed_0, jX11_treed_15, bX11_treed_15, jX11_treed_26, bX11_treed_26, jX11_treed_52, bX11_treed_52, jX11_treed_61, bX11_treed_61, jX11_treed_70, bX11_treed_70, jX11_treed_79, bX11_treed_79, Nat.reduceAdd, Nat.reduceLeDiff, Nat.reduceEqDiff, Nat.reduceSub, Nat.zero_le, Nat.add_left_cancel_iff, true_and, and_true, if_true, if_false, reduceIte, ne_eq, not_false_eq_true, Nat.add_eq_left, Nat.left_eq_add, kI_sI, kL_sI, kR_sI, kK_sI, kI_sL, kL_sL, kR_sL, kK_sL, kI_sIA, kL_sIA, kR_sIA, kK_sIA, kI_sLA, kL_sLA, kR_sLA, kK_sLA, wK_1 w, wR_1_3 w, wR_1_4 w, wR_1_5 w, wR_1_6 w, wR_1_7 w, wR_1_8 w, wR_1_9 w, wR_1_10 w, wR_1_11 w, wR_1_12 w, wK_50 w, r2]
      refine start ?_
      simp only [ks_nop, ks_aload_0, ks_iload_1, ks_iload_2, ks_ldc, ks_ldc_w, ks_dup_i, ks_dup_r, ks_if_lt, ks_icmp_lt, ks_switch, ks_get0, ks_get3, ks_get1, ks_get2, ks_new, ks_inv0, ks_inv1, ks_inv2, ks_inv4, ks_inv3, ks_inv5, ks_inv6, ks_inv7, ks_inv8, ks_iret0, ks_throw, kldi_0, kldl_0, klda_0, kldz_0, kst1_0, kst2_0, kldi_1, kldl_1, klda_1, kldz_1, kst1_1n, kst2_1n, kst1_1i, kst2_1i, kst1_1r, kst2_1r, kst1_1z, kst2_1z, kst1_1l, kst2_1l, kldi_2, kldl_2, klda_2, kldz_2, kst1_2n, kst2_2n, kst1_2i, kst2_2i, kst1_2r, kst2_2r, kst1_2z, kst2_2z, kst1_2l, kst2_2l, kpr_r, kcat_n, kcat_i, kcat_r, kcat_z, kcat_l, kargs_0, kargs_s, kret_v, kret_n, kret_x, jX11_treed_0, bX11_treed_0, jX11_treed_15, bX11_treed_15, jX11_treed_26, bX11_treed_26, jX11_treed_52, bX11_treed_52, jX11_treed_61, bX11_treed_61, jX11_treed_70, bX11_treed_70, jX11_treed_79, bX11_treed_79, Nat.reduceAdd, Nat.reduceLeDiff, Nat.reduceEqDiff, Nat.reduceSub, Nat.zero_le, Nat.add_left_cancel_iff, true_and, and_true, if_true, if_false, reduceIte, ne_eq, not_false_eq_true, Nat.add_eq_left, Nat.left_eq_add, kI_sI, kL_sI, kR_sI, kK_sI, kI_sL, kL_sL, kR_sL, kK_sL, kI_sIA, kL_sIA, kR_sIA, kK_sIA, kI_sLA, kL_sLA, kR_sLA, kK_sLA]
      exact ⟨False.elim, good⟩
    · show kto _ _ _ _ 70 _ _ _
      simp only [ks_nop, ks_aload_0, ks_iload_1, ks_iload_2, ks_ldc, ks_ldc_w, ks_dup_i, ks_dup_r, ks_if_lt, ks_icmp_lt, ks_switch, ks_get0, ks_get3, ks_get1, ks_get2, ks_new, ks_inv0, ks_inv1, ks_inv2, ks_inv4, ks_inv3, ks_inv5, ks_inv6, ks_inv7, ks_inv8, ks_iret0, ks_throw, kldi_0, kldl_0, klda_0, kldz_0, kst1_0, kst2_0, kldi_1, kldl_1, klda_1, kldz_1, kst1_1n, kst2_1n, kst1_1i, kst2_1i, kst1_1r, kst2_1r, kst1_1z, kst2_1z, kst1_1l, kst2_1l, kldi_2, kldl_2, klda_2, kldz_2, kst1_2n, kst2_2n, kst1_2i, kst2_2i, kst1_2r, kst2_2r, kst1_2z, kst2_2z, kst1_2l, kst2_2l, kpr_r, kcat_n, kcat_i, kcat_r, kcat_z, kcat_l, kargs_0, kargs_s, kret_v, kret_n, kret_x, jX11_treed_0, bX11_treed_0, jX11_treed_15, bX11_treed_15, jX11_treed_26, bX11_treed_26, jX11_treed_52, bX11_treed_52, jX11_treed_61, bX11_treed_61, jX11_treed_70, bX11_treed_70, jX11_treed_79, bX11_treed_79, Nat.reduceAdd, Nat.reduceLeDiff, Nat.reduceEqDiff, Nat.reduceSub, Nat.zero_le, Nat.add_left_cancel_iff, true_and, and_true, if_true, if_false, reduceIte, ne_eq, not_false_eq_true, Nat.add_eq_left, Nat.left_eq_add, kI_sI, kL_sI, kR_sI, kK_sI, kI_sL, kL_sL, kR_sL, kK_sL, kI_sIA, kL_sIA, kR_sIA, kK_sIA, kI_sLA, kL_sLA, kR_sLA, kK_sLA, wK_1 w, wR_1_3 w, wR_1_4 w, wR_1_5 w, wR_1_6 w, wR_1_7 w, wR_1_8 w, wR_1_9 w, wR_1_10 w, wR_1_11 w, wR_1_12 w, wK_50 w, r2]
      refine sX3_nodeSigns _ _ ?_
      refine eX3_nodeSigns_0 ?_
      simp only [ks_nop, ks_aload_0, ks_iload_1, ks_bipush, ks_isub, ks_iand, ks_get0, ks_get3, ks_get1, ks_get2, ks_iald, ks_sld, ks_inv0, ks_inv1, ks_inv2, ks_inv4, ks_inv3, ks_inv5, ks_inv6, ks_inv7, ks_inv8, ks_iret0, kldi_0, kldl_0, klda_0, kldz_0, kst1_0, kst2_0, kldi_1, kldl_1, klda_1, kldz_1, kst1_1n, kst2_1n, kst1_1i, kst2_1i, kst1_1r, kst2_1r, kst1_1z, kst2_1z, kst1_1l, kst2_1l, kpr_r, kcat_n, kcat_i, kcat_r, kcat_z, kcat_l, kargs_0, kargs_s, kret_v, kret_n, kret_x, zl_31, jX3_nodeSigns_0, bX3_nodeSigns_0, Nat.reduceAdd, Nat.reduceLeDiff, Nat.reduceEqDiff, Nat.reduceSub, Nat.zero_le, Nat.add_left_cancel_iff, true_and, and_true, if_true, if_false, reduceIte, ne_eq, not_false_eq_true, Nat.add_eq_left, Nat.left_eq_add, kI_sI, kL_sI, kR_sI, kK_sI, kI_sL, kL_sL, kR_sL, kK_sL, kI_sIA, kL_sIA, kR_sIA, kK_sIA, kI_sLA, kL_sLA, kR_sLA, kK_sLA, wK_50 w, wR_50_0 w, wR_50_1 w, wR_50_3 w, wR_50_4 w, wK_51 w, wK_53 w, wK_54 w, r28]
      try simp (disch := omega) only [a_0, a_1, a_L0, a_L1, a_lt, a_le, a_eq, a_sub, a_addn, nI_add, pk_mul, a_in, nI_clamp, a_eqn, a_eqn', a_eqn2, a_n12, eq_self, a_ltn, a_ltn', a_len, a_len', a_shl1, z_shr, fa_and, fa_or, a_tb, a_tb0, a_b0, a_b1, a_bi, a_lc0, a_lcle, a_lcge, a_lclt, a_lcgt, upd_at, upd_ne, updL_at, updL_ne, Nat.reduceAdd, Nat.reduceSub, Nat.reduceMul, Nat.reduceLT, Nat.reduceLeDiff, Nat.reduceEqDiff, true_and, and_true, if_true, if_false, reduceIte, ne_eq, not_false_eq_true, not_true_eq_false, true_implies, false_implies, Nat.not_lt, Nat.not_le, Nat.le_refl, Nat.add_sub_cancel, Nat.lt_irrefl, Nat.not_lt_zero, Nat.zero_le, Nat.testBit_shiftRight, Nat.add_zero, reduceCtorEq, true_or, or_true, or_false, false_or, Bool.true_eq_false, Bool.false_eq_true, Bool.not_eq_false, Bool.not_eq_true, Decidable.not_not, cm, r28]
      try simp only [d3, r28, true_and]
      refine start ?_
      simp only [ks_nop, ks_aload_0, ks_iload_1, ks_bipush, ks_isub, ks_iand, ks_get0, ks_get3, ks_get1, ks_get2, ks_iald, ks_sld, ks_inv0, ks_inv1, ks_inv2, ks_inv4, ks_inv3, ks_inv5, ks_inv6, ks_inv7, ks_inv8, ks_iret0, kldi_0, kldl_0, klda_0, kldz_0, kst1_0, kst2_0, kldi_1, kldl_1, klda_1, kldz_1, kst1_1n, kst2_1n, kst1_1i, kst2_1i, kst1_1r, kst2_1r, kst1_1z, kst2_1z, kst1_1l, kst2_1l, kpr_r, kcat_n, kcat_i, kcat_r, kcat_z, kcat_l, kargs_0, kargs_s, kret_v, kret_n, kret_x, zl_31, jX3_nodeSigns_0, bX3_nodeSigns_0, Nat.reduceAdd, Nat.reduceLeDiff, Nat.reduceEqDiff, Nat.reduceSub, Nat.zero_le, Nat.add_left_cancel_iff, true_and, and_true, if_true, if_false, reduceIte, ne_eq, not_false_eq_true, Nat.add_eq_left, Nat.left_eq_add, kI_sI, kL_sI, kR_sI, kK_sI, kI_sL, kL_sL, kR_sL, kK_sL, kI_sIA, kL_sIA, kR_sIA, kK_sIA, kI_sLA, kL_sLA, kR_sLA, kK_sLA]
      try simp (disch := omega) only [a_0, a_1, a_L0, a_L1, a_lt, a_le, a_eq, a_sub, a_addn, nI_add, pk_mul, a_in, nI_clamp, a_eqn, a_eqn', a_eqn2, a_n12, eq_self, a_ltn, a_ltn', a_len, a_len', a_shl1, z_shr, fa_and, fa_or, a_tb, a_tb0, a_b0, a_b1, a_bi, a_lc0, a_lcle, a_lcge, a_lclt, a_lcgt, upd_at, upd_ne, updL_at, updL_ne, Nat.reduceAdd, Nat.reduceSub, Nat.reduceMul, Nat.reduceLT, Nat.reduceLeDiff, Nat.reduceEqDiff, true_and, and_true, if_true, if_false, reduceIte, ne_eq, not_false_eq_true, not_true_eq_false, true_implies, false_implies, Nat.not_lt, Nat.not_le, Nat.le_refl, Nat.add_sub_cancel, Nat.lt_irrefl, Nat.not_lt_zero, Nat.zero_le, Nat.testBit_shiftRight, Nat.add_zero, reduceCtorEq, true_or, or_true, or_false, false_or, Bool.true_eq_false, Bool.false_eq_true, Bool.not_eq_false, Bool.not_eq_true, Decidable.not_not]
      repeat (first | refine ⟨fun _ => ?_, fun c => absurd c (by omega)⟩ | refine ⟨fun c => absurd c (by omega), fun _ => ?_⟩)
      rw [show i0 + n0 - i0 = n0 by omega]
      try refine ⟨False.elim, ?_⟩
      try simp only [ks_nop, ks_aload_0, ks_iload_1, ks_iload_2, ks_ldc, ks_ldc_w, ks_dup_i, ks_dup_r, ks_if_lt, ks_icmp_lt, ks_switch, ks_get0, ks_get3, ks_get1, ks_get2, ks_new, ks_inv0, ks_inv1, ks_inv2, ks_inv4, ks_inv3, ks_inv5, ks_inv6, ks_inv7, ks_inv8, ks_iret0, ks_throw, kldi_0, kldl_0, klda_0, kldz_0, kst1_0, kst2_0, kldi_1, kldl_1, klda_1, kldz_1, kst1_1n, kst2_1n, kst1_1i, kst2_1i, kst1_1r, kst2_1r, kst1_1z, kst2_1z, kst1_1l, kst2_1l, kldi_2, kldl_2, klda_2, kldz_2, kst1_2n, kst2_2n, kst1_2i, kst2_2i, kst1_2r, kst2_2r, kst1_2z, kst2_2z, kst1_2l, kst2_2l, kpr_r, kcat_n, kcat_i, kcat_r, kcat_z, kcat_l, kargs_0, kargs_s, kret_v, kret_n, kret_x, jX11_treed_0, bX11_treed_0, jX11_treed_15, bX11_treed_15, jX11_treed_26, bX11_treed_26, jX11_treed_52, bX11_treed_52, jX11_treed_61, bX11_treed_61, jX11_treed_70, bX11_treed_70, jX11_treed_79, bX11_treed_79, Nat.reduceAdd, Nat.reduceLeDiff, Nat.reduceEqDiff, Nat.reduceSub, Nat.zero_le, Nat.add_left_cancel_iff, true_and, and_true, if_true, if_false, reduceIte, ne_eq, not_false_eq_true, Nat.add_eq_left, Nat.left_eq_add]
      first | exact good | exact ⟨False.elim, good⟩
  · refine ksw_df (by decide) (fun j hj z => q3 ?_) ?_
    · replace hj : j < 3 := hj
      rw [z, a_le (by omega) (by omega), a_le (by omega) (by omega)]
      omega
    · show kto _ _ _ _ 79 _ _ _
      simp only [ks_nop, ks_aload_0, ks_iload_1, ks_iload_2, ks_ldc, ks_ldc_w, ks_dup_i, ks_dup_r, ks_if_lt, ks_icmp_lt, ks_switch, ks_get0, ks_get3, ks_get1, ks_get2, ks_new, ks_inv0, ks_inv1, ks_inv2, ks_inv4, ks_inv3, ks_inv5, ks_inv6, ks_inv7, ks_inv8, ks_iret0, ks_throw, kldi_0, kldl_0, klda_0, kldz_0, kst1_0, kst2_0, kldi_1, kldl_1, klda_1, kldz_1, kst1_1n, kst2_1n, kst1_1i, kst2_1i, kst1_1r, kst2_1r, kst1_1z, kst2_1z, kst1_1l, kst2_1l, kldi_2, kldl_2, klda_2, kldz_2, kst1_2n, kst2_2n, kst1_2i, kst2_2i, kst1_2r, kst2_2r, kst1_2z, kst2_2z, kst1_2l, kst2_2l, kpr_r, kcat_n, kcat_i, kcat_r, kcat_z, kcat_l, kargs_0, kargs_s, kret_v, kret_n, kret_x, jX11_treed_0, bX11_treed_0, jX11_treed_15, bX11_treed_15, jX11_treed_26, bX11_treed_26, jX11_treed_52, bX11_treed_52, jX11_treed_61, bX11_treed_61, jX11_treed_70, bX11_treed_70, jX11_treed_79, bX11_treed_79, Nat.reduceAdd, Nat.reduceLeDiff, Nat.reduceEqDiff, Nat.reduceSub, Nat.zero_le, Nat.add_left_cancel_iff, true_and, and_true, if_true, if_false, reduceIte, ne_eq, not_false_eq_true, Nat.add_eq_left, Nat.left_eq_add, kI_sI, kL_sI, kR_sI, kK_sI, kI_sL, kL_sL, kR_sL, kK_sL, kI_sIA, kL_sIA, kR_sIA, kK_sIA, kI_sLA, kL_sLA, kR_sLA, kK_sLA, r8]
      exact bad (fun z => q3 z.2)
end OP

/-! the class's short words: tables by length, rows that are made anew -/
def isD (x : Nat) : Prop := x = 52 ∨ (58 ≤ x ∧ x ≤ 61) ∨ x = 65 ∨ 105 < x
def AMS (h : KH) (B : GB) : Prop := (∀ l, 1 ≤ l → l ≤ 6 → kI h 56 l = nI ((sgl B).length ^ l)) ∧ ∀ l, 1 ≤ l → l ≤ 7 → kI h 57 l = nI (fFr (sgl B).length l)
/-- the labels of the rows -/
def SWL (h : KH) (a b c d N : Nat) : Prop := (kR h 55 4 = a ∧ kR h 55 5 = b ∧ kR h 55 6 = c ∧ kR h 55 7 = d) ∧ (kK h a = (2, N) ∧ kK h b = (2, N) ∧ kK h c = (3, N) ∧ kK h d = (1, N)) ∧ (isD a ∧ isD b ∧ isD c ∧ isD d) ∧ a ≠ b
def SWT (h : KH) (a b c : Nat) (B : GB) (m : Nat) : Prop := ∀ l v, 1 ≤ l → l ≤ m → v < (sgl B).length ^ l → kL h a (fFr (sgl B).length l + v) = lN (IT B (wN (sgl B) l v)) ∧ kL h b (fFr (sgl B).length l + v) = lN (WT B (wN (sgl B) l v)) ∧ kI h c (fFr (sgl B).length l + v) = nI (tdB B (wN (sgl B) l v))
def SWH (h : KH) (d : Nat) (B : GB) (P : List (List Nat)) (C : CL) (m : Nat) : Prop := ∀ l v, 1 ≤ l → l ≤ m → v < (sgl B).length ^ l → kI h d (fFr (sgl B).length l + v) = nI (hs B P C (wN (sgl B) l v))
section SW
variable {r : Nat} {h : KH} {Q : KO → KH → Prop} {B : GB} {nn : Nat} {P : List (List Nat)} {C : CL} {a b c d N g : Nat}
theorem isD_0 {x : Nat} (hx : isD x) : ¬ x = 0 := by unfold isD at hx; omega
theorem isG_D (hg : isG g) {x : Nat} (hx : isD x) : (∀ y ∈ gS g, y ≠ x) ∧ ∀ y ∈ gT g, y ≠ x := by
  have h1 : (∀ y ∈ gS g, y ≤ 25) ∧ ∀ y ∈ gT g, y ≤ 25 := by rcases hg with rfl | rfl <;> decide
  unfold isD at hx
  exact ⟨fun y hy => by have := h1.1 y hy; omega, fun y hy => by have := h1.2 y hy; omega⟩
theorem SWL_fr {h' : KH} {S T : List Nat} (f : Fr S T h h') (L : SWL h a b c d N) : SWL h' a b c d N := by
  unfold SWL at L ⊢
  rw [Fr_R f, Fr_K f]; exact L
theorem fFr_in {n l m : Nat} (h1 : 1 ≤ l) (hm : l ≤ m) : ∀ v, v < n ^ l → fFr n l + v < fFr n (m + 1) := by
  intro v hv
  have m1 := fFr_m n l (m - l)
  rw [show l + 1 + (m - l) = m + 1 by omega, fFr_s h1] at m1
  omega
theorem SWT_keep {h' : KH} {m : Nat} (K : ∀ p, p < fFr (sgl B).length (m + 1) → kL h' a p = kL h a p ∧ kL h' b p = kL h b p ∧ kI h' c p = kI h c p) (T : SWT h a b c B m) : SWT h' a b c B m := by
  intro l v h1 h2 h3
  obtain ⟨k1, k2, k3⟩ := K _ (fFr_in h1 h2 _ h3)
  rw [k1, k2, k3]
  exact T l v h1 h2 h3
theorem mul_in {i j p q : Nat} (hi : i < p) (hj : j < q) : i * q + j < p * q := by
  have h1 : (i + 1) * q ≤ p * q := Nat.mul_le_mul_right _ (by omega)
  rw [Nat.add_mul, Nat.one_mul] at h1
  omega
theorem mul_dm {i j q : Nat} (hj : j < q) : (i * q + j) / q = i ∧ (i * q + j) % q = j := by
  constructor
  · rw [Nat.mul_comm, Nat.mul_add_div (by omega), Nat.div_eq_of_lt hj, Nat.add_zero]
  · rw [Nat.mul_add_mod_self_right, Nat.mod_eq_of_lt hj]
theorem c_meetItems {f s : Nat} {X : Nat → Nat} (w : kW h) (A : AMS h B) (L : SWL h a b c d N) (hN : fFr (sgl B).length 7 ≤ N) (hN2 : N ≤ 100000) (T : SWT h a b c B (f + s - 1)) (hf : 1 ≤ f) (hs : 1 ≤ s) (h6 : f + s ≤ 6)
    (hX : ∀ v, v < (sgl B).length ^ (f + s) → kL h a (fFr (sgl B).length (f + s) + v) = lN (X v) ∧ X v < 2 ^ 64)
    (H : ∀ h', Fr [] [a] h h' → (∀ p, p < fFr (sgl B).length (f + s) → kL h' a p = kL h a p) → (∀ v, v < (sgl B).length ^ (f + s) → kL h' a (fFr (sgl B).length (f + s) + v) = lN (X v ||| (IT B (wN (sgl B) f (v / (sgl B).length ^ s)) &&& WT B (wN (sgl B) s (v % (sgl B).length ^ s))))) → Q (.inl none) h') :
    kCalls r yX6_meetItems [.ref 55, .int (nI f), .int (nI s)] h Q := by
  have w0 := w
  have L0 := L
  have s4 := sgl_len B
  have ms := fFr_in (n := (sgl B).length) (l := f) (m := f + s - 1) hf (by omega)
  have ms2 := fFr_in (n := (sgl B).length) (l := s) (m := f + s - 1) hs (by omega)
  have mt := fFr_in (n := (sgl B).length) (l := f + s) (m := 6) (by omega) (by omega)
  rw [show f + s - 1 + 1 = f + s by omega] at ms ms2
  rw [show 6 + 1 = 7 from rfl] at mt
  have f1 := A.2 f hf (by omega)
  have f2 := A.2 (f + 1) (by omega) (by omega)
  have f3 := A.2 s hs (by omega)
  have f4 := A.2 (s + 1) (by omega) (by omega)
  have f5 := A.2 (f + s) (by omega) (by omega)
  have tI := fun v hv => (T f v hf (by omega) hv).1
  have tW := fun v hv => (T s v hs (by omega) hv).2.1
  rw [fFr_s hf] at f2
  rw [fFr_s hs] at f4
  have bp := pw_b s4 (l := f) (by omega)
  have bq := pw_b s4 (l := s) (by omega)
  have mF := fFr_m (sgl B).length (f + s - 1) (7 - (f + s))
  rw [show f + s - 1 + 1 + (7 - (f + s)) = 7 by omega, show f + s - 1 + 1 = f + s by omega] at mF
  have b1 := fFr_b s4 (l := f) (by omega)
  have b2 := fFr_b s4 (l := s) (by omega)
  have b3 := fFr_b s4 (l := f + s) (by omega)
  rw [fFr_s hf] at b1
  rw [fFr_s hs] at b2
  rw [fFr_s (by omega)] at b3
  rw [Nat.pow_add] at hX H mt b3
  generalize fFr (sgl B).length f = F1 at *
  generalize fFr (sgl B).length s = F2 at *
  generalize fFr (sgl B).length (f + s) = F at *
  generalize fFr (sgl B).length 7 = F7 at *
  generalize (sgl B).length ^ f = p at *
  generalize (sgl B).length ^ s = q at *
  have st : ∀ h', Fr [] [a] h h' → kW h' ∧ SWL h' a b c d N ∧ kI h' 57 f = nI F1 ∧ kI h' 57 (f + 1) = nI (F1 + p) ∧ kI h' 57 s = nI F2 ∧ kI h' 57 (s + 1) = nI (F2 + q) ∧ kL h' b = kL h b := by
    intro h' k
    rw [k.2.1 57 (by simp), k.2.2 b (by have := L.2.2.2; simp; omega)]
    exact ⟨Fr_W k w0, SWL_fr k L, f1, f2, f3, f4, rfl⟩
  have outer : ∀ i, i ≤ p → ∀ h', Fr [] [a] h h' → (∀ x, x < F → kL h' a x = kL h a x) → (∀ v, v < p * q → kL h' a (F + v) = lN (if v < i * q then X v ||| (IT B (wN (sgl B) f (v / q)) &&& WT B (wN (sgl B) s (v % q))) else X v)) → ∀ e5 e7 : Option Value, kRun r mX6_meetItems 17 [some (.ref 55), some (.int (nI f)), some (.int (nI s)), some (.int (nI (F + i * q))), some (.int (nI (F1 + i))), e5, none, e7] [] h' Q := by
    refine up_ind ?_ (fun i hi ih => ?_)
    · intro h' k k1 k2 e5 e7
      obtain ⟨w, L, g1, g2, g3, g4, g5⟩ := st h' k
      refine eX6_meetItems_17 ?_
      simp only [ks_nop, ks_aload_0, ks_iload_1, ks_iload_2, ks_iload_3, ks_iload, ks_lload, ks_istore_3, ks_istore, ks_lstore, ks_iconst, ks_iinc, ks_iadd, ks_land, ks_lor, ks_dup2_ii, ks_dup2_ir, ks_icmp_ge, ks_goto, ks_get0, ks_get3, ks_get1, ks_get2, ks_iald, ks_sld, ks_lald, ks_last, ks_vret, kldi_0, kldl_0, klda_0, kldz_0, kst1_0, kst2_0, kldi_1, kldl_1, klda_1, kldz_1, kst1_1n, kst2_1n, kst1_1i, kst2_1i, kst1_1r, kst2_1r, kst1_1z, kst2_1z, kst1_1l, kst2_1l, kldi_2, kldl_2, klda_2, kldz_2, kst1_2n, kst2_2n, kst1_2i, kst2_2i, kst1_2r, kst2_2r, kst1_2z, kst2_2z, kst1_2l, kst2_2l, kldi_3, kldl_3, klda_3, kldz_3, kst1_3n, kst2_3n, kst1_3i, kst2_3i, kst1_3r, kst2_3r, kst1_3z, kst2_3z, kst1_3l, kst2_3l, kldi_4, kldl_4, klda_4, kldz_4, kst1_4n, kst2_4n, kst1_4i, kst2_4i, kst1_4r, kst2_4r, kst1_4z, kst2_4z, kst1_4l, kst2_4l, kldi_5, kldl_5, klda_5, kldz_5, kst1_5n, kst2_5n, kst1_5i, kst2_5i, kst1_5r, kst2_5r, kst1_5z, kst2_5z, kst1_5l, kst2_5l, kldi_6, kldl_6, klda_6, kldz_6, kst1_6n, kst2_6n, kst1_6i, kst2_6i, kst1_6r, kst2_6r, kst1_6z, kst2_6z, kst1_6l, kst2_6l, kldi_7, kldl_7, klda_7, kldz_7, kst1_7n, kst2_7n, kst1_7i, kst2_7i, kst1_7r, kst2_7r, kst1_7z, kst2_7z, kst1_7l, kst2_7l, kcat_n, kcat_i, kcat_r, kcat_z, kcat_l, jX6_meetItems_0, bX6_meetItems_0, jX6_meetItems_17, bX6_meetItems_17, jX6_meetItems_47, bX6_meetItems_47, jX6_meetItems_88, bX6_meetItems_88, jX6_meetItems_94, bX6_meetItems_94, Nat.reduceAdd, Nat.reduceLeDiff, Nat.reduceEqDiff, Nat.reduceSub, Nat.zero_le, Nat.add_left_cancel_iff, true_and, and_true, if_true, if_false, reduceIte, ne_eq, not_false_eq_true, Nat.add_eq_left, Nat.left_eq_add, kI_sI, kL_sI, kR_sI, kK_sI, kI_sL, kL_sL, kR_sL, kK_sL, kI_sIA, kL_sIA, kR_sIA, kK_sIA, kI_sLA, kL_sLA, kR_sLA, kK_sLA, wK_55 w, wR_55_0 w, wR_55_2 w, wR_55_3 w, wK_56 w, wK_57 w, g2]
      try simp (disch := omega) only [a_0, a_1, a_L0, a_L1, a_lt, a_le, a_eq, a_sub, a_addn, nI_add, pk_mul, a_in, nI_clamp, a_eqn, a_eqn', a_eqn2, a_n12, eq_self, a_ltn, a_ltn', a_len, a_len', a_shl1, z_shr, fa_and, fa_or, a_tb, a_tb0, a_b0, a_b1, a_bi, a_lc0, a_lcle, a_lcge, a_lclt, a_lcgt, upd_at, upd_ne, updL_at, updL_ne, Nat.reduceAdd, Nat.reduceSub, Nat.reduceMul, Nat.reduceLT, Nat.reduceLeDiff, Nat.reduceEqDiff, true_and, and_true, if_true, if_false, reduceIte, ne_eq, not_false_eq_true, not_true_eq_false, true_implies, false_implies, Nat.not_lt, Nat.not_le, Nat.le_refl, Nat.add_sub_cancel, Nat.lt_irrefl, Nat.not_lt_zero, Nat.zero_le, Nat.testBit_shiftRight, Nat.add_zero, reduceCtorEq, true_or, or_true, or_false, false_or, Bool.true_eq_false, Bool.false_eq_true, Bool.not_eq_false, Bool.not_eq_true, Decidable.not_not, wK_55 w, wR_55_0 w, wR_55_2 w, wR_55_3 w, wK_56 w, wK_57 w, g2]
      repeat (first | refine ⟨fun _ => ?_, fun c => absurd c (by omega)⟩ | refine ⟨fun c => absurd c (by omega), fun _ => ?_⟩)
      refine H h' k k1 (fun v hv => ?_)
      rw [k2 v hv, if_pos hv]
    · intro h' k k1 k2 e5 e7
      obtain ⟨w, ⟨⟨a1, a2, a3, a4⟩, ⟨b1, b2, b3, b4⟩, ⟨d1, d2, d3, d4⟩, nab⟩, g1, g2, g3, g4, g5⟩ := st h' k
      have a0 := isD_0 d1
      have m1 := ms i hi
      have ci := tI i hi
      rw [← k1 _ m1] at ci
      have inner : ∀ j, j ≤ q → ∀ h', Fr [] [a] h h' → (∀ x, x < F → kL h' a x = kL h a x) → (∀ v, v < p * q → kL h' a (F + v) = lN (if v < i * q + j then X v ||| (IT B (wN (sgl B) f (v / q)) &&& WT B (wN (sgl B) s (v % q))) else X v)) → kRun r mX6_meetItems 47 [some (.ref 55), some (.int (nI f)), some (.int (nI s)), some (.int (nI (F + i * q + j))), some (.int (nI (F1 + i))), some (.long (lN (IT B (wN (sgl B) f i)))), none, some (.int (nI (F2 + j)))] [] h' Q := by
        refine up_ind ?_ (fun j hj ih2 => ?_)
        · intro h' k k1 k2
          obtain ⟨w, L, g1, g2, g3, g4, g5⟩ := st h' k
          have e : (i + 1) * q = i * q + q := by rw [Nat.add_mul, Nat.one_mul]
          rw [e, ← Nat.add_assoc] at ih
          refine eX6_meetItems_47 ?_
          simp only [ks_nop, ks_aload_0, ks_iload_1, ks_iload_2, ks_iload_3, ks_iload, ks_lload, ks_istore_3, ks_istore, ks_lstore, ks_iconst, ks_iinc, ks_iadd, ks_land, ks_lor, ks_dup2_ii, ks_dup2_ir, ks_icmp_ge, ks_goto, ks_get0, ks_get3, ks_get1, ks_get2, ks_iald, ks_sld, ks_lald, ks_last, ks_vret, kldi_0, kldl_0, klda_0, kldz_0, kst1_0, kst2_0, kldi_1, kldl_1, klda_1, kldz_1, kst1_1n, kst2_1n, kst1_1i, kst2_1i, kst1_1r, kst2_1r, kst1_1z, kst2_1z, kst1_1l, kst2_1l, kldi_2, kldl_2, klda_2, kldz_2, kst1_2n, kst2_2n, kst1_2i, kst2_2i, kst1_2r, kst2_2r, kst1_2z, kst2_2z, kst1_2l, kst2_2l, kldi_3, kldl_3, klda_3, kldz_3, kst1_3n, kst2_3n, kst1_3i, kst2_3i, kst1_3r, kst2_3r, kst1_3z, kst2_3z, kst1_3l, kst2_3l, kldi_4, kldl_4, klda_4, kldz_4, kst1_4n, kst2_4n, kst1_4i, kst2_4i, kst1_4r, kst2_4r, kst1_4z, kst2_4z, kst1_4l, kst2_4l, kldi_5, kldl_5, klda_5, kldz_5, kst1_5n, kst2_5n, kst1_5i, kst2_5i, kst1_5r, kst2_5r, kst1_5z, kst2_5z, kst1_5l, kst2_5l, kldi_6, kldl_6, klda_6, kldz_6, kst1_6n, kst2_6n, kst1_6i, kst2_6i, kst1_6r, kst2_6r, kst1_6z, kst2_6z, kst1_6l, kst2_6l, kldi_7, kldl_7, klda_7, kldz_7, kst1_7n, kst2_7n, kst1_7i, kst2_7i, kst1_7r, kst2_7r, kst1_7z, kst2_7z, kst1_7l, kst2_7l, kcat_n, kcat_i, kcat_r, kcat_z, kcat_l, jX6_meetItems_0, bX6_meetItems_0, jX6_meetItems_17, bX6_meetItems_17, jX6_meetItems_47, bX6_meetItems_47, jX6_meetItems_88, bX6_meetItems_88, jX6_meetItems_94, bX6_meetItems_94, Nat.reduceAdd, Nat.reduceLeDiff, Nat.reduceEqDiff, Nat.reduceSub, Nat.zero_le, Nat.add_left_cancel_iff, true_and, and_true, if_true, if_false, reduceIte, ne_eq, not_false_eq_true, Nat.add_eq_left, Nat.left_eq_add, kI_sI, kL_sI, kR_sI, kK_sI, kI_sL, kL_sL, kR_sL, kK_sL, kI_sIA, kL_sIA, kR_sIA, kK_sIA, kI_sLA, kL_sLA, kR_sLA, kK_sLA, wK_55 w, wR_55_0 w, wR_55_2 w, wR_55_3 w, wK_56 w, wK_57 w, g4]
          try simp (disch := omega) only [a_0, a_1, a_L0, a_L1, a_lt, a_le, a_eq, a_sub, a_addn, nI_add, pk_mul, a_in, nI_clamp, a_eqn, a_eqn', a_eqn2, a_n12, eq_self, a_ltn, a_ltn', a_len, a_len', a_shl1, z_shr, fa_and, fa_or, a_tb, a_tb0, a_b0, a_b1, a_bi, a_lc0, a_lcle, a_lcge, a_lclt, a_lcgt, upd_at, upd_ne, updL_at, updL_ne, Nat.reduceAdd, Nat.reduceSub, Nat.reduceMul, Nat.reduceLT, Nat.reduceLeDiff, Nat.reduceEqDiff, true_and, and_true, if_true, if_false, reduceIte, ne_eq, not_false_eq_true, not_true_eq_false, true_implies, false_implies, Nat.not_lt, Nat.not_le, Nat.le_refl, Nat.add_sub_cancel, Nat.lt_irrefl, Nat.not_lt_zero, Nat.zero_le, Nat.testBit_shiftRight, Nat.add_zero, reduceCtorEq, true_or, or_true, or_false, false_or, Bool.true_eq_false, Bool.false_eq_true, Bool.not_eq_false, Bool.not_eq_true, Decidable.not_not, wK_55 w, wR_55_0 w, wR_55_2 w, wR_55_3 w, wK_56 w, wK_57 w, g4]
          repeat (first | refine ⟨fun _ => ?_, fun c => absurd c (by omega)⟩ | refine ⟨fun c => absurd c (by omega), fun _ => ?_⟩)
          exact ih h' k k1 k2 _ _
        · intro h' k k1 k2
          obtain ⟨w, ⟨⟨a1, a2, a3, a4⟩, ⟨b1, b2, b3, b4⟩, ⟨d1, d2, d3, d4⟩, nab⟩, g1, g2, g3, g4, g5⟩ := st h' k
          have a0 := isD_0 d1
          have b0 := isD_0 d2
          have tw := tW j hj
          rw [← g5] at tw
          have hin := mul_in hi hj
          have mt' := mt _ hin
          have m2 := ms2 j hj
          have xv := (hX _ hin).2
          have kv := k2 _ hin
          rw [if_neg (by omega), ← Nat.add_assoc] at kv
          have dm := mul_dm (i := i) hj
          rw [← Nat.add_assoc] at mt'
          rw [← Nat.add_assoc (F + i * q) j 1] at ih2
          refine eX6_meetItems_47 ?_
          simp only [ks_nop, ks_aload_0, ks_iload_1, ks_iload_2, ks_iload_3, ks_iload, ks_lload, ks_istore_3, ks_istore, ks_lstore, ks_iconst, ks_iinc, ks_iadd, ks_land, ks_lor, ks_dup2_ii, ks_dup2_ir, ks_icmp_ge, ks_goto, ks_get0, ks_get3, ks_get1, ks_get2, ks_iald, ks_sld, ks_lald, ks_last, ks_vret, kldi_0, kldl_0, klda_0, kldz_0, kst1_0, kst2_0, kldi_1, kldl_1, klda_1, kldz_1, kst1_1n, kst2_1n, kst1_1i, kst2_1i, kst1_1r, kst2_1r, kst1_1z, kst2_1z, kst1_1l, kst2_1l, kldi_2, kldl_2, klda_2, kldz_2, kst1_2n, kst2_2n, kst1_2i, kst2_2i, kst1_2r, kst2_2r, kst1_2z, kst2_2z, kst1_2l, kst2_2l, kldi_3, kldl_3, klda_3, kldz_3, kst1_3n, kst2_3n, kst1_3i, kst2_3i, kst1_3r, kst2_3r, kst1_3z, kst2_3z, kst1_3l, kst2_3l, kldi_4, kldl_4, klda_4, kldz_4, kst1_4n, kst2_4n, kst1_4i, kst2_4i, kst1_4r, kst2_4r, kst1_4z, kst2_4z, kst1_4l, kst2_4l, kldi_5, kldl_5, klda_5, kldz_5, kst1_5n, kst2_5n, kst1_5i, kst2_5i, kst1_5r, kst2_5r, kst1_5z, kst2_5z, kst1_5l, kst2_5l, kldi_6, kldl_6, klda_6, kldz_6, kst1_6n, kst2_6n, kst1_6i, kst2_6i, kst1_6r, kst2_6r, kst1_6z, kst2_6z, kst1_6l, kst2_6l, kldi_7, kldl_7, klda_7, kldz_7, kst1_7n, kst2_7n, kst1_7i, kst2_7i, kst1_7r, kst2_7r, kst1_7z, kst2_7z, kst1_7l, kst2_7l, kcat_n, kcat_i, kcat_r, kcat_z, kcat_l, jX6_meetItems_0, bX6_meetItems_0, jX6_meetItems_17, bX6_meetItems_17, jX6_meetItems_47, bX6_meetItems_47, jX6_meetItems_88, bX6_meetItems_88, jX6_meetItems_94, bX6_meetItems_94, Nat.reduceAdd, Nat.reduceLeDiff, Nat.reduceEqDiff, Nat.reduceSub, Nat.zero_le, Nat.add_left_cancel_iff, true_and, and_true, if_true, if_false, reduceIte, ne_eq, not_false_eq_true, Nat.add_eq_left, Nat.left_eq_add, kI_sI, kL_sI, kR_sI, kK_sI, kI_sL, kL_sL, kR_sL, kK_sL, kI_sIA, kL_sIA, kR_sIA, kK_sIA, kI_sLA, kL_sLA, kR_sLA, kK_sLA, wK_55 w, wR_55_0 w, wR_55_2 w, wR_55_3 w, wK_56 w, wK_57 w, g4, a1, a2, b1, b2, a0, b0, tw, kv]
          try simp (disch := omega) only [a_0, a_1, a_L0, a_L1, a_lt, a_le, a_eq, a_sub, a_addn, nI_add, pk_mul, a_in, nI_clamp, a_eqn, a_eqn', a_eqn2, a_n12, eq_self, a_ltn, a_ltn', a_len, a_len', a_shl1, z_shr, fa_and, fa_or, a_tb, a_tb0, a_b0, a_b1, a_bi, a_lc0, a_lcle, a_lcge, a_lclt, a_lcgt, upd_at, upd_ne, updL_at, updL_ne, Nat.reduceAdd, Nat.reduceSub, Nat.reduceMul, Nat.reduceLT, Nat.reduceLeDiff, Nat.reduceEqDiff, true_and, and_true, if_true, if_false, reduceIte, ne_eq, not_false_eq_true, not_true_eq_false, true_implies, false_implies, Nat.not_lt, Nat.not_le, Nat.le_refl, Nat.add_sub_cancel, Nat.lt_irrefl, Nat.not_lt_zero, Nat.zero_le, Nat.testBit_shiftRight, Nat.add_zero, reduceCtorEq, true_or, or_true, or_false, false_or, Bool.true_eq_false, Bool.false_eq_true, Bool.not_eq_false, Bool.not_eq_true, Decidable.not_not, wK_55 w, wR_55_0 w, wR_55_2 w, wR_55_3 w, wK_56 w, wK_57 w, g4, a1, a2, b1, b2, a0, b0, tw, kv]
          repeat (first | refine ⟨fun _ => ?_, fun c => absurd c (by omega)⟩ | refine ⟨fun c => absurd c (by omega), fun _ => ?_⟩)
          rw [L_and (IT_lt _ _) (WT_lt _ _), L_or xv (nand_lt (IT_lt _ _))]
          refine ih2 _ (Fr_sL k (by simp)) ?_ ?_
          · intro x hx
            rw [kL_sL, if_pos rfl, updL_ne _ _ (by omega)]
            exact k1 x hx
          · intro v hv
            rw [kL_sL, if_pos rfl]
            by_cases e : v = i * q + j
            · rw [e, if_pos (by omega), dm.1, dm.2, ← Nat.add_assoc, updL_at]
            · rw [updL_ne _ _ (by omega), k2 v hv]
              by_cases e2 : v < i * q + j
              · rw [if_pos e2, if_pos (by omega)]
              · rw [if_neg e2, if_neg (by omega)]
      refine eX6_meetItems_17 ?_
      simp only [ks_nop, ks_aload_0, ks_iload_1, ks_iload_2, ks_iload_3, ks_iload, ks_lload, ks_istore_3, ks_istore, ks_lstore, ks_iconst, ks_iinc, ks_iadd, ks_land, ks_lor, ks_dup2_ii, ks_dup2_ir, ks_icmp_ge, ks_goto, ks_get0, ks_get3, ks_get1, ks_get2, ks_iald, ks_sld, ks_lald, ks_last, ks_vret, kldi_0, kldl_0, klda_0, kldz_0, kst1_0, kst2_0, kldi_1, kldl_1, klda_1, kldz_1, kst1_1n, kst2_1n, kst1_1i, kst2_1i, kst1_1r, kst2_1r, kst1_1z, kst2_1z, kst1_1l, kst2_1l, kldi_2, kldl_2, klda_2, kldz_2, kst1_2n, kst2_2n, kst1_2i, kst2_2i, kst1_2r, kst2_2r, kst1_2z, kst2_2z, kst1_2l, kst2_2l, kldi_3, kldl_3, klda_3, kldz_3, kst1_3n, kst2_3n, kst1_3i, kst2_3i, kst1_3r, kst2_3r, kst1_3z, kst2_3z, kst1_3l, kst2_3l, kldi_4, kldl_4, klda_4, kldz_4, kst1_4n, kst2_4n, kst1_4i, kst2_4i, kst1_4r, kst2_4r, kst1_4z, kst2_4z, kst1_4l, kst2_4l, kldi_5, kldl_5, klda_5, kldz_5, kst1_5n, kst2_5n, kst1_5i, kst2_5i, kst1_5r, kst2_5r, kst1_5z, kst2_5z, kst1_5l, kst2_5l, kldi_6, kldl_6, klda_6, kldz_6, kst1_6n, kst2_6n, kst1_6i, kst2_6i, kst1_6r, kst2_6r, kst1_6z, kst2_6z, kst1_6l, kst2_6l, kldi_7, kldl_7, klda_7, kldz_7, kst1_7n, kst2_7n, kst1_7i, kst2_7i, kst1_7r, kst2_7r, kst1_7z, kst2_7z, kst1_7l, kst2_7l, kcat_n, kcat_i, kcat_r, kcat_z, kcat_l, jX6_meetItems_0, bX6_meetItems_0, jX6_meetItems_17, bX6_meetItems_17, jX6_meetItems_47, bX6_meetItems_47, jX6_meetItems_88, bX6_meetItems_88, jX6_meetItems_94, bX6_meetItems_94, Nat.reduceAdd, Nat.reduceLeDiff, Nat.reduceEqDiff, Nat.reduceSub, Nat.zero_le, Nat.add_left_cancel_iff, true_and, and_true, if_true, if_false, reduceIte, ne_eq, not_false_eq_true, Nat.add_eq_left, Nat.left_eq_add, kI_sI, kL_sI, kR_sI, kK_sI, kI_sL, kL_sL, kR_sL, kK_sL, kI_sIA, kL_sIA, kR_sIA, kK_sIA, kI_sLA, kL_sLA, kR_sLA, kK_sLA, wK_55 w, wR_55_0 w, wR_55_2 w, wR_55_3 w, wK_56 w, wK_57 w, g2, g3, a1, a2, b1, b2, a0, ci]
      try simp (disch := omega) only [a_0, a_1, a_L0, a_L1, a_lt, a_le, a_eq, a_sub, a_addn, nI_add, pk_mul, a_in, nI_clamp, a_eqn, a_eqn', a_eqn2, a_n12, eq_self, a_ltn, a_ltn', a_len, a_len', a_shl1, z_shr, fa_and, fa_or, a_tb, a_tb0, a_b0, a_b1, a_bi, a_lc0, a_lcle, a_lcge, a_lclt, a_lcgt, upd_at, upd_ne, updL_at, updL_ne, Nat.reduceAdd, Nat.reduceSub, Nat.reduceMul, Nat.reduceLT, Nat.reduceLeDiff, Nat.reduceEqDiff, true_and, and_true, if_true, if_false, reduceIte, ne_eq, not_false_eq_true, not_true_eq_false, true_implies, false_implies, Nat.not_lt, Nat.not_le, Nat.le_refl, Nat.add_sub_cancel, Nat.lt_irrefl, Nat.not_lt_zero, Nat.zero_le, Nat.testBit_shiftRight, Nat.add_zero, reduceCtorEq, true_or, or_true, or_false, false_or, Bool.true_eq_false, Bool.false_eq_true, Bool.not_eq_false, Bool.not_eq_true, Decidable.not_not, wK_55 w, wR_55_0 w, wR_55_2 w, wR_55_3 w, wK_56 w, wK_57 w, g2, g3, a1, a2, b1, b2, a0, ci]
      repeat (first | refine ⟨fun _ => ?_, fun c => absurd c (by omega)⟩ | refine ⟨fun c => absurd c (by omega), fun _ => ?_⟩)
      exact inner 0 (by omega) h' k k1 k2
  obtain ⟨w, L, g1, g2, g3, g4, g5⟩ := st h (Fr_rf _ _ _)
  refine sX6_meetItems _ _ _ ?_
  refine eX6_meetItems_0 ?_
  simp only [ks_nop, ks_aload_0, ks_iload_1, ks_iload_2, ks_iload_3, ks_iload, ks_lload, ks_istore_3, ks_istore, ks_lstore, ks_iconst, ks_iinc, ks_iadd, ks_land, ks_lor, ks_dup2_ii, ks_dup2_ir, ks_icmp_ge, ks_goto, ks_get0, ks_get3, ks_get1, ks_get2, ks_iald, ks_sld, ks_lald, ks_last, ks_vret, kldi_0, kldl_0, klda_0, kldz_0, kst1_0, kst2_0, kldi_1, kldl_1, klda_1, kldz_1, kst1_1n, kst2_1n, kst1_1i, kst2_1i, kst1_1r, kst2_1r, kst1_1z, kst2_1z, kst1_1l, kst2_1l, kldi_2, kldl_2, klda_2, kldz_2, kst1_2n, kst2_2n, kst1_2i, kst2_2i, kst1_2r, kst2_2r, kst1_2z, kst2_2z, kst1_2l, kst2_2l, kldi_3, kldl_3, klda_3, kldz_3, kst1_3n, kst2_3n, kst1_3i, kst2_3i, kst1_3r, kst2_3r, kst1_3z, kst2_3z, kst1_3l, kst2_3l, kldi_4, kldl_4, klda_4, kldz_4, kst1_4n, kst2_4n, kst1_4i, kst2_4i, kst1_4r, kst2_4r, kst1_4z, kst2_4z, kst1_4l, kst2_4l, kldi_5, kldl_5, klda_5, kldz_5, kst1_5n, kst2_5n, kst1_5i, kst2_5i, kst1_5r, kst2_5r, kst1_5z, kst2_5z, kst1_5l, kst2_5l, kldi_6, kldl_6, klda_6, kldz_6, kst1_6n, kst2_6n, kst1_6i, kst2_6i, kst1_6r, kst2_6r, kst1_6z, kst2_6z, kst1_6l, kst2_6l, kldi_7, kldl_7, klda_7, kldz_7, kst1_7n, kst2_7n, kst1_7i, kst2_7i, kst1_7r, kst2_7r, kst1_7z, kst2_7z, kst1_7l, kst2_7l, kcat_n, kcat_i, kcat_r, kcat_z, kcat_l, jX6_meetItems_0, bX6_meetItems_0, jX6_meetItems_17, bX6_meetItems_17, jX6_meetItems_47, bX6_meetItems_47, jX6_meetItems_88, bX6_meetItems_88, jX6_meetItems_94, bX6_meetItems_94, Nat.reduceAdd, Nat.reduceLeDiff, Nat.reduceEqDiff, Nat.reduceSub, Nat.zero_le, Nat.add_left_cancel_iff, true_and, and_true, if_true, if_false, reduceIte, ne_eq, not_false_eq_true, Nat.add_eq_left, Nat.left_eq_add, kI_sI, kL_sI, kR_sI, kK_sI, kI_sL, kL_sL, kR_sL, kK_sL, kI_sIA, kL_sIA, kR_sIA, kK_sIA, kI_sLA, kL_sLA, kR_sLA, kK_sLA, wK_55 w, wR_55_0 w, wR_55_2 w, wR_55_3 w, wK_56 w, wK_57 w]
  try simp (disch := omega) only [a_0, a_1, a_L0, a_L1, a_lt, a_le, a_eq, a_sub, a_addn, nI_add, pk_mul, a_in, nI_clamp, a_eqn, a_eqn', a_eqn2, a_n12, eq_self, a_ltn, a_ltn', a_len, a_len', a_shl1, z_shr, fa_and, fa_or, a_tb, a_tb0, a_b0, a_b1, a_bi, a_lc0, a_lcle, a_lcge, a_lclt, a_lcgt, upd_at, upd_ne, updL_at, updL_ne, Nat.reduceAdd, Nat.reduceSub, Nat.reduceMul, Nat.reduceLT, Nat.reduceLeDiff, Nat.reduceEqDiff, true_and, and_true, if_true, if_false, reduceIte, ne_eq, not_false_eq_true, not_true_eq_false, true_implies, false_implies, Nat.not_lt, Nat.not_le, Nat.le_refl, Nat.add_sub_cancel, Nat.lt_irrefl, Nat.not_lt_zero, Nat.zero_le, Nat.testBit_shiftRight, Nat.add_zero, reduceCtorEq, true_or, or_true, or_false, false_or, Bool.true_eq_false, Bool.false_eq_true, Bool.not_eq_false, Bool.not_eq_true, Decidable.not_not, f5, g1]
  have := outer 0 (by omega) h (Fr_rf _ _ _) (fun _ _ => rfl) (fun v hv => by rw [(hX v hv).1, if_neg (by omega)]) none none
  rw [Nat.zero_mul] at this
  exact this
end SW

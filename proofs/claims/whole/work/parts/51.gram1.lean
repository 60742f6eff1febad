/-! the class's grammar: bodies in its rows -/
def orf (f : Nat → Nat) : Nat → Nat
  | 0 => 0
  | k + 1 => orf f k ||| f k
theorem orf_bit (f : Nat → Nat) (i : Nat) : ∀ k, (orf f k).testBit i = true ↔ ∃ b, b < k ∧ (f b).testBit i = true
  | 0 => by simp [orf]
  | k + 1 => by
    rw [orf, Nat.testBit_or, Bool.or_eq_true, orf_bit f i k]
    constructor
    · rintro (⟨b, h1, h2⟩ | h)
      · exact ⟨b, by omega, h2⟩
      · exact ⟨k, by omega, h⟩
    · rintro ⟨b, h1, h2⟩
      by_cases e : b = k
      · subst e; exact Or.inr h2
      · exact Or.inl ⟨b, by omega, h2⟩
theorem orf_lt {f : Nat → Nat} {n : Nat} : ∀ k, (∀ b, b < k → f b < 2 ^ n) → orf f k < 2 ^ n
  | 0, _ => Nat.two_pow_pos n
  | k + 1, h => nor_lt (orf_lt k (fun b hb => h b (by omega))) (h k (by omega))
def csy (s : Nat) : Nat := if s < 4 then 6 + s else s - 4
theorem csy_lt {s : Nat} (h : s < 10) : csy s < 10 := by unfold csy; split <;> omega
theorem csy_inj {s t : Nat} (hs : s < 10) (ht : t < 10) : csy s = csy t ↔ s = t := by
  unfold csy
  constructor
  · intro h; split at h <;> split at h <;> omega
  · intro h; rw [h]
def bo (B : GB) (b : Nat) : Nat := (B.getD b (0, [])).1
def bs (B : GB) (b : Nat) : List Nat := (B.getD b (0, [])).2
def bsy (B : GB) (b k : Nat) : Nat := (bs B b).getD k 0
/-- bodies as a grammar has them -/
def bok (B : GB) (nn : Nat) : Prop := B.length ≤ 16 ∧ nn ≤ 6 ∧ ∀ b, b < B.length → bo B b < nn ∧ 1 ≤ (bs B b).length ∧ (bs B b).length ≤ 4 ∧ ∀ k, k < (bs B b).length → bsy B b k < 4 + nn
def GA (fg fo fz fy : Nat → Int32) (B : GB) (nn : Nat) : Prop := fg 5 = nI nn ∧ fg 6 = nI B.length ∧ ∀ b, b < B.length → fo b = nI (bo B b) ∧ fz b = nI (bs B b).length ∧ ∀ k, k < (bs B b).length → fy (b * 4 + k) = nI (csy (bsy B b k))
section GR
variable {r : Nat} {h : KH} {Q : KO → KH → Prop} {g : Nat} {B : GB} {nn : Nat}
def ooF (B : GB) (s b : Nat) : Nat := if (bs B b).length = 1 ∧ bsy B b 0 = s then 2 ^ bo B b else 0
def oo (B : GB) (s : Nat) : Nat := orf (ooF B s) B.length
theorem ooF_lt (hB : bok B nn) {s b : Nat} (hb : b < B.length) : ooF B s b < 2 ^ 6 := by
  unfold ooF
  split
  · exact Nat.pow_lt_pow_right (by omega) (by have := (hB.2.2 b hb).1; have := hB.2.1; omega)
  · omega
theorem oo_lt (hB : bok B nn) (s : Nat) : oo B s < 2 ^ 6 := orf_lt _ (fun b hb => ooF_lt hB hb)
theorem c_ownersOfOne {s : Nat} (w : kW h) (hg : isG g) (G : GA (kI h g) (kI h (g + 2)) (kI h (g + 3)) (kI h (g + 4)) B nn) (hB : bok B nn) (hs : s < 10) (H : Q (.inl (some (.int (nI (oo B s))))) h) : kCalls r yX1_ownersOfOne [.ref g, .int (nI (csy s))] h Q := by
  refine sX1_ownersOfOne _ _ ?_
  refine eX1_ownersOfOne_0 ?_
  simp only [ks_nop, ks_aload_0, ks_iload_1, ks_iload_2, ks_iload_3, ks_istore_2, ks_istore_3, ks_iconst, ks_iinc, ks_imul, ks_ior, ks_ishl, ks_icmp_ne, ks_icmp_ge, ks_goto, ks_get0, ks_get3, ks_get1, ks_get2, ks_iald, ks_sld, ks_iret0, kldi_0, kldl_0, klda_0, kldz_0, kst1_0, kst2_0, kldi_1, kldl_1, klda_1, kldz_1, kst1_1n, kst2_1n, kst1_1i, kst2_1i, kst1_1r, kst2_1r, kst1_1z, kst2_1z, kst1_1l, kst2_1l, kldi_2, kldl_2, klda_2, kldz_2, kst1_2n, kst2_2n, kst1_2i, kst2_2i, kst1_2r, kst2_2r, kst1_2z, kst2_2z, kst1_2l, kst2_2l, kldi_3, kldl_3, klda_3, kldz_3, kst1_3n, kst2_3n, kst1_3i, kst2_3i, kst1_3r, kst2_3r, kst1_3z, kst2_3z, kst1_3l, kst2_3l, kcat_n, kcat_i, kcat_r, kcat_z, kcat_l, zl_4, jX1_ownersOfOne_0, bX1_ownersOfOne_0, jX1_ownersOfOne_4, bX1_ownersOfOne_4, jX1_ownersOfOne_45, bX1_ownersOfOne_45, jX1_ownersOfOne_51, bX1_ownersOfOne_51]
  have loop : ∀ b, b ≤ B.length → kRun r mX1_ownersOfOne 4 [some (.ref g), some (.int (nI (csy s))), some (.int (nI (orf (ooF B s) b))), some (.int (nI b))] [] h Q := by
    have hl := hB.1
    refine up_ind ?_ (fun b hb ih => ?_)
    · refine eX1_ownersOfOne_4 ?_
      simp only [ks_nop, ks_aload_0, ks_iload_1, ks_iload_2, ks_iload_3, ks_istore_2, ks_istore_3, ks_iconst, ks_iinc, ks_imul, ks_ior, ks_ishl, ks_icmp_ne, ks_icmp_ge, ks_goto, ks_get0, ks_get3, ks_get1, ks_get2, ks_iald, ks_sld, ks_iret0, kldi_0, kldl_0, klda_0, kldz_0, kst1_0, kst2_0, kldi_1, kldl_1, klda_1, kldz_1, kst1_1n, kst2_1n, kst1_1i, kst2_1i, kst1_1r, kst2_1r, kst1_1z, kst2_1z, kst1_1l, kst2_1l, kldi_2, kldl_2, klda_2, kldz_2, kst1_2n, kst2_2n, kst1_2i, kst2_2i, kst1_2r, kst2_2r, kst1_2z, kst2_2z, kst1_2l, kst2_2l, kldi_3, kldl_3, klda_3, kldz_3, kst1_3n, kst2_3n, kst1_3i, kst2_3i, kst1_3r, kst2_3r, kst1_3z, kst2_3z, kst1_3l, kst2_3l, kcat_n, kcat_i, kcat_r, kcat_z, kcat_l, zl_4, jX1_ownersOfOne_0, bX1_ownersOfOne_0, jX1_ownersOfOne_4, bX1_ownersOfOne_4, jX1_ownersOfOne_45, bX1_ownersOfOne_45, jX1_ownersOfOne_51, bX1_ownersOfOne_51, Nat.reduceAdd, Nat.reduceLeDiff, Nat.reduceEqDiff, Nat.reduceSub, Nat.zero_le, Nat.add_left_cancel_iff, true_and, and_true, if_true, if_false, reduceIte, ne_eq, not_false_eq_true, Nat.add_eq_left, Nat.left_eq_add, gK w hg, gR_0 w hg, gK_1 w hg, gR_1 w hg, gK_2 w hg, gR_2 w hg, gK_3 w hg, gR_3 w hg, gK_4 w hg, gR_4 w hg, gK_5 w hg, gR_11 w hg, gK_6 w hg, gR_12 w hg, gK_7 w hg, gR_13 w hg, gK_8 w hg, gR_14 w hg, gK_9 w hg, gR_15 w hg, gK_10 w hg, gR_16 w hg, gK_11 w hg, G.2.1]
      exact br_t (nI_le (Nat.le_refl _) (by omega)) ⟨by simp, H⟩
    · obtain ⟨g1, g2, g3⟩ := G.2.2 b hb
      obtain ⟨k1, k2, k3, k4⟩ := hB.2.2 b hb
      have g30 : kI h (g + 4) (b * 4) = nI (csy (bsy B b 0)) := g3 0 (by omega)
      have hn := hB.2.1
      refine eX1_ownersOfOne_4 ?_
      simp only [ks_nop, ks_aload_0, ks_iload_1, ks_iload_2, ks_iload_3, ks_istore_2, ks_istore_3, ks_iconst, ks_iinc, ks_imul, ks_ior, ks_ishl, ks_icmp_ne, ks_icmp_ge, ks_goto, ks_get0, ks_get3, ks_get1, ks_get2, ks_iald, ks_sld, ks_iret0, kldi_0, kldl_0, klda_0, kldz_0, kst1_0, kst2_0, kldi_1, kldl_1, klda_1, kldz_1, kst1_1n, kst2_1n, kst1_1i, kst2_1i, kst1_1r, kst2_1r, kst1_1z, kst2_1z, kst1_1l, kst2_1l, kldi_2, kldl_2, klda_2, kldz_2, kst1_2n, kst2_2n, kst1_2i, kst2_2i, kst1_2r, kst2_2r, kst1_2z, kst2_2z, kst1_2l, kst2_2l, kldi_3, kldl_3, klda_3, kldz_3, kst1_3n, kst2_3n, kst1_3i, kst2_3i, kst1_3r, kst2_3r, kst1_3z, kst2_3z, kst1_3l, kst2_3l, kcat_n, kcat_i, kcat_r, kcat_z, kcat_l, zl_4, jX1_ownersOfOne_0, bX1_ownersOfOne_0, jX1_ownersOfOne_4, bX1_ownersOfOne_4, jX1_ownersOfOne_45, bX1_ownersOfOne_45, jX1_ownersOfOne_51, bX1_ownersOfOne_51, Nat.reduceAdd, Nat.reduceLeDiff, Nat.reduceEqDiff, Nat.reduceSub, Nat.zero_le, Nat.add_left_cancel_iff, true_and, and_true, if_true, if_false, reduceIte, ne_eq, not_false_eq_true, Nat.add_eq_left, Nat.left_eq_add, gK w hg, gR_0 w hg, gK_1 w hg, gR_1 w hg, gK_2 w hg, gR_2 w hg, gK_3 w hg, gR_3 w hg, gK_4 w hg, gR_4 w hg, gK_5 w hg, gR_11 w hg, gK_6 w hg, gR_12 w hg, gK_7 w hg, gR_13 w hg, gK_8 w hg, gR_14 w hg, gK_9 w hg, gR_15 w hg, gK_10 w hg, gR_16 w hg, gK_11 w hg, G.2.1]
      rw [nI_clamp (n := b) (by omega), pk_mul, nI_clamp (n := b * 4) (by omega), g1, g2, g30]
      refine br_f (nI_ge hb (by omega)) ⟨vp_in_nI (by omega) (by omega), ?_⟩
      have next : ∀ x, x = orf (ooF B s) (b + 1) → kRun r mX1_ownersOfOne 45 [some (.ref g), some (.int (nI (csy s))), some (.int (nI x)), some (.int (nI b))] [] h Q := by
        rintro x rfl
        refine eX1_ownersOfOne_45 ?_
        simp only [ks_nop, ks_aload_0, ks_iload_1, ks_iload_2, ks_iload_3, ks_istore_2, ks_istore_3, ks_iconst, ks_iinc, ks_imul, ks_ior, ks_ishl, ks_icmp_ne, ks_icmp_ge, ks_goto, ks_get0, ks_get3, ks_get1, ks_get2, ks_iald, ks_sld, ks_iret0, kldi_0, kldl_0, klda_0, kldz_0, kst1_0, kst2_0, kldi_1, kldl_1, klda_1, kldz_1, kst1_1n, kst2_1n, kst1_1i, kst2_1i, kst1_1r, kst2_1r, kst1_1z, kst2_1z, kst1_1l, kst2_1l, kldi_2, kldl_2, klda_2, kldz_2, kst1_2n, kst2_2n, kst1_2i, kst2_2i, kst1_2r, kst2_2r, kst1_2z, kst2_2z, kst1_2l, kst2_2l, kldi_3, kldl_3, klda_3, kldz_3, kst1_3n, kst2_3n, kst1_3i, kst2_3i, kst1_3r, kst2_3r, kst1_3z, kst2_3z, kst1_3l, kst2_3l, kcat_n, kcat_i, kcat_r, kcat_z, kcat_l, zl_4, jX1_ownersOfOne_0, bX1_ownersOfOne_0, jX1_ownersOfOne_4, bX1_ownersOfOne_4, jX1_ownersOfOne_45, bX1_ownersOfOne_45, jX1_ownersOfOne_51, bX1_ownersOfOne_51, nI_1]
        exact ih
      have c10 := csy_lt hs
      have c11 := csy_lt (s := bsy B b 0) (by have := k4 0 (by omega); omega)
      by_cases h1 : (bs B b).length = 1
      · refine br_f (by rw [h1]; simp; rfl) ⟨vp_in_nI (by omega) (by omega), ?_⟩
        by_cases h2 : bsy B b 0 = s
        · refine br_f (by rw [h2]; simp) ⟨vp_in_nI (by omega) (by omega), ?_⟩
          rw [z_shl1 (by omega), fa_or]
          exact next _ (by rw [orf, ooF, if_pos ⟨h1, h2⟩])
        · refine br_t (fun e => h2 ?_) (next _ (by rw [orf, ooF, if_neg (fun q => h2 q.2), Nat.or_zero]))
          have := (nI_eq (by omega) (by omega)).mp e
          exact (csy_inj (by have := k4 0 (by omega); omega) hs).mp this
      · refine br_t (fun e => h1 ?_) (next _ (by rw [orf, ooF, if_neg (fun q => h1 q.1), Nat.or_zero]))
        exact (nI_eq (b := 1) (by omega) (by omega)).mp e
  have h0 := loop 0 (Nat.zero_le _)
  exact h0
/-- a sweep over the names, rounds of sweeps -/
def swp (B : GB) (x : Nat) : Nat → Nat
  | 0 => x
  | k + 1 => if (swp B x k).testBit k then swp B x k ||| oo B (4 + k) else swp B x k
def rnds (B : GB) (nn x : Nat) : Nat → Nat
  | 0 => x
  | t + 1 => swp B (rnds B nn x t) nn
theorem swp_lt (hB : bok B nn) {x : Nat} (hx : x < 2 ^ 6) : ∀ k, swp B x k < 2 ^ 6
  | 0 => hx
  | k + 1 => by
    have := swp_lt hB hx k
    unfold swp
    split
    · exact nor_lt this (oo_lt hB _)
    · exact this
theorem rnds_lt (hB : bok B nn) {x : Nat} (hx : x < 2 ^ 6) : ∀ t, rnds B nn x t < 2 ^ 6
  | 0 => hx
  | t + 1 => swp_lt hB (rnds_lt hB hx t) nn
def gup (B : GB) (nn x : Nat) : Nat := rnds B nn x 6
theorem csy_name (k : Nat) : csy (4 + k) = k := by unfold csy; rw [if_neg (by omega)]; omega
theorem c_goUp {x : Nat} (hr : 3 ≤ r) (w : kW h) (hg : isG g) (G : GA (kI h g) (kI h (g + 2)) (kI h (g + 3)) (kI h (g + 4)) B nn) (hB : bok B nn) (hx : x < 2 ^ 6) (H : Q (.inl (some (.int (nI (gup B nn x))))) h) : kCalls r yX1_goUp [.ref g, .int (nI x)] h Q := by
  have r2 : 2 ≤ r := by omega
  refine sX1_goUp _ _ ?_
  refine eX1_goUp_0 ?_
  simp only [ks_nop, ks_aload_0, ks_iload_1, ks_iload_2, ks_iload_3, ks_iload, ks_istore_2, ks_istore_3, ks_istore, ks_iconst, ks_bipush, ks_iinc, ks_iand, ks_ior, ks_ishr, ks_if_eq, ks_icmp_ge, ks_goto, ks_get0, ks_get3, ks_get1, ks_get2, ks_inv0, ks_inv1, ks_inv2, ks_inv4, ks_inv3, ks_inv5, ks_inv6, ks_inv7, ks_inv8, ks_iret0, kldi_0, kldl_0, klda_0, kldz_0, kst1_0, kst2_0, kldi_1, kldl_1, klda_1, kldz_1, kst1_1n, kst2_1n, kst1_1i, kst2_1i, kst1_1r, kst2_1r, kst1_1z, kst2_1z, kst1_1l, kst2_1l, kldi_2, kldl_2, klda_2, kldz_2, kst1_2n, kst2_2n, kst1_2i, kst2_2i, kst1_2r, kst2_2r, kst1_2z, kst2_2z, kst1_2l, kst2_2l, kldi_3, kldl_3, klda_3, kldz_3, kst1_3n, kst2_3n, kst1_3i, kst2_3i, kst1_3r, kst2_3r, kst1_3z, kst2_3z, kst1_3l, kst2_3l, kldi_4, kldl_4, klda_4, kldz_4, kst1_4n, kst2_4n, kst1_4i, kst2_4i, kst1_4r, kst2_4r, kst1_4z, kst2_4z, kst1_4l, kst2_4l, kpr_r, kcat_n, kcat_i, kcat_r, kcat_z, kcat_l, kargs_0, kargs_s, kret_v, kret_n, kret_x, zl_6, jX1_goUp_0, bX1_goUp_0, jX1_goUp_4, bX1_goUp_4, jX1_goUp_13, bX1_goUp_13, jX1_goUp_40, bX1_goUp_40, jX1_goUp_46, bX1_goUp_46, jX1_goUp_52, bX1_goUp_52, Nat.reduceAdd, Nat.reduceLeDiff, Nat.reduceEqDiff, Nat.reduceSub, Nat.zero_le, Nat.add_left_cancel_iff, true_and, and_true, if_true, if_false, reduceIte, ne_eq, not_false_eq_true, Nat.add_eq_left, Nat.left_eq_add, kI_sI, kL_sI, kR_sI, kK_sI, kI_sL, kL_sL, kR_sL, kK_sL, kI_sIA, kL_sIA, kR_sIA, kK_sIA, kI_sLA, kL_sLA, kR_sLA, kK_sLA]
  have hn := hB.2.1
  have outer : ∀ t, t ≤ 6 → ∀ e4 : Option Value, kRun r mX1_goUp 4 [some (.ref g), some (.int (nI x)), some (.int (nI (rnds B nn x t))), some (.int (nI t)), e4] [] h Q := by
    refine up_ind ?_ (fun t ht ih => ?_)
    · intro e4
      refine eX1_goUp_4 ?_
      simp only [ks_nop, ks_aload_0, ks_iload_1, ks_iload_2, ks_iload_3, ks_iload, ks_istore_2, ks_istore_3, ks_istore, ks_iconst, ks_bipush, ks_iinc, ks_iand, ks_ior, ks_ishr, ks_if_eq, ks_icmp_ge, ks_goto, ks_get0, ks_get3, ks_get1, ks_get2, ks_inv0, ks_inv1, ks_inv2, ks_inv4, ks_inv3, ks_inv5, ks_inv6, ks_inv7, ks_inv8, ks_iret0, kldi_0, kldl_0, klda_0, kldz_0, kst1_0, kst2_0, kldi_1, kldl_1, klda_1, kldz_1, kst1_1n, kst2_1n, kst1_1i, kst2_1i, kst1_1r, kst2_1r, kst1_1z, kst2_1z, kst1_1l, kst2_1l, kldi_2, kldl_2, klda_2, kldz_2, kst1_2n, kst2_2n, kst1_2i, kst2_2i, kst1_2r, kst2_2r, kst1_2z, kst2_2z, kst1_2l, kst2_2l, kldi_3, kldl_3, klda_3, kldz_3, kst1_3n, kst2_3n, kst1_3i, kst2_3i, kst1_3r, kst2_3r, kst1_3z, kst2_3z, kst1_3l, kst2_3l, kldi_4, kldl_4, klda_4, kldz_4, kst1_4n, kst2_4n, kst1_4i, kst2_4i, kst1_4r, kst2_4r, kst1_4z, kst2_4z, kst1_4l, kst2_4l, kpr_r, kcat_n, kcat_i, kcat_r, kcat_z, kcat_l, kargs_0, kargs_s, kret_v, kret_n, kret_x, zl_6, jX1_goUp_0, bX1_goUp_0, jX1_goUp_4, bX1_goUp_4, jX1_goUp_13, bX1_goUp_13, jX1_goUp_40, bX1_goUp_40, jX1_goUp_46, bX1_goUp_46, jX1_goUp_52, bX1_goUp_52, Nat.reduceAdd, Nat.reduceLeDiff, Nat.reduceEqDiff, Nat.reduceSub, Nat.zero_le, Nat.add_left_cancel_iff, true_and, and_true, if_true, if_false, reduceIte, ne_eq, not_false_eq_true, Nat.add_eq_left, Nat.left_eq_add, kI_sI, kL_sI, kR_sI, kK_sI, kI_sL, kL_sL, kR_sL, kK_sL, kI_sIA, kL_sIA, kR_sIA, kK_sIA, kI_sLA, kL_sLA, kR_sLA, kK_sLA]
      exact br_t (nI_le (Nat.le_refl 6) (by omega)) ⟨by simp, H⟩
    · intro e4
      refine eX1_goUp_4 ?_
      simp only [ks_nop, ks_aload_0, ks_iload_1, ks_iload_2, ks_iload_3, ks_iload, ks_istore_2, ks_istore_3, ks_istore, ks_iconst, ks_bipush, ks_iinc, ks_iand, ks_ior, ks_ishr, ks_if_eq, ks_icmp_ge, ks_goto, ks_get0, ks_get3, ks_get1, ks_get2, ks_inv0, ks_inv1, ks_inv2, ks_inv4, ks_inv3, ks_inv5, ks_inv6, ks_inv7, ks_inv8, ks_iret0, kldi_0, kldl_0, klda_0, kldz_0, kst1_0, kst2_0, kldi_1, kldl_1, klda_1, kldz_1, kst1_1n, kst2_1n, kst1_1i, kst2_1i, kst1_1r, kst2_1r, kst1_1z, kst2_1z, kst1_1l, kst2_1l, kldi_2, kldl_2, klda_2, kldz_2, kst1_2n, kst2_2n, kst1_2i, kst2_2i, kst1_2r, kst2_2r, kst1_2z, kst2_2z, kst1_2l, kst2_2l, kldi_3, kldl_3, klda_3, kldz_3, kst1_3n, kst2_3n, kst1_3i, kst2_3i, kst1_3r, kst2_3r, kst1_3z, kst2_3z, kst1_3l, kst2_3l, kldi_4, kldl_4, klda_4, kldz_4, kst1_4n, kst2_4n, kst1_4i, kst2_4i, kst1_4r, kst2_4r, kst1_4z, kst2_4z, kst1_4l, kst2_4l, kpr_r, kcat_n, kcat_i, kcat_r, kcat_z, kcat_l, kargs_0, kargs_s, kret_v, kret_n, kret_x, zl_6, jX1_goUp_0, bX1_goUp_0, jX1_goUp_4, bX1_goUp_4, jX1_goUp_13, bX1_goUp_13, jX1_goUp_40, bX1_goUp_40, jX1_goUp_46, bX1_goUp_46, jX1_goUp_52, bX1_goUp_52, Nat.reduceAdd, Nat.reduceLeDiff, Nat.reduceEqDiff, Nat.reduceSub, Nat.zero_le, Nat.add_left_cancel_iff, true_and, and_true, if_true, if_false, reduceIte, ne_eq, not_false_eq_true, Nat.add_eq_left, Nat.left_eq_add, kI_sI, kL_sI, kR_sI, kK_sI, kI_sL, kL_sL, kR_sL, kK_sL, kI_sIA, kL_sIA, kR_sIA, kK_sIA, kI_sLA, kL_sLA, kR_sLA, kK_sLA]
      refine br_f (nI_ge ht (by omega)) ?_
      have inner : ∀ k, k ≤ nn → kRun r mX1_goUp 13 [some (.ref g), some (.int (nI x)), some (.int (nI (swp B (rnds B nn x t) k))), some (.int (nI t)), some (.int (nI k))] [] h Q := by
        refine up_ind ?_ (fun k hk ih2 => ?_)
        · refine eX1_goUp_13 ?_
          simp only [ks_nop, ks_aload_0, ks_iload_1, ks_iload_2, ks_iload_3, ks_iload, ks_istore_2, ks_istore_3, ks_istore, ks_iconst, ks_bipush, ks_iinc, ks_iand, ks_ior, ks_ishr, ks_if_eq, ks_icmp_ge, ks_goto, ks_get0, ks_get3, ks_get1, ks_get2, ks_inv0, ks_inv1, ks_inv2, ks_inv4, ks_inv3, ks_inv5, ks_inv6, ks_inv7, ks_inv8, ks_iret0, kldi_0, kldl_0, klda_0, kldz_0, kst1_0, kst2_0, kldi_1, kldl_1, klda_1, kldz_1, kst1_1n, kst2_1n, kst1_1i, kst2_1i, kst1_1r, kst2_1r, kst1_1z, kst2_1z, kst1_1l, kst2_1l, kldi_2, kldl_2, klda_2, kldz_2, kst1_2n, kst2_2n, kst1_2i, kst2_2i, kst1_2r, kst2_2r, kst1_2z, kst2_2z, kst1_2l, kst2_2l, kldi_3, kldl_3, klda_3, kldz_3, kst1_3n, kst2_3n, kst1_3i, kst2_3i, kst1_3r, kst2_3r, kst1_3z, kst2_3z, kst1_3l, kst2_3l, kldi_4, kldl_4, klda_4, kldz_4, kst1_4n, kst2_4n, kst1_4i, kst2_4i, kst1_4r, kst2_4r, kst1_4z, kst2_4z, kst1_4l, kst2_4l, kpr_r, kcat_n, kcat_i, kcat_r, kcat_z, kcat_l, kargs_0, kargs_s, kret_v, kret_n, kret_x, zl_6, jX1_goUp_0, bX1_goUp_0, jX1_goUp_4, bX1_goUp_4, jX1_goUp_13, bX1_goUp_13, jX1_goUp_40, bX1_goUp_40, jX1_goUp_46, bX1_goUp_46, jX1_goUp_52, bX1_goUp_52, Nat.reduceAdd, Nat.reduceLeDiff, Nat.reduceEqDiff, Nat.reduceSub, Nat.zero_le, Nat.add_left_cancel_iff, true_and, and_true, if_true, if_false, reduceIte, ne_eq, not_false_eq_true, Nat.add_eq_left, Nat.left_eq_add, kI_sI, kL_sI, kR_sI, kK_sI, kI_sL, kL_sL, kR_sL, kK_sL, kI_sIA, kL_sIA, kR_sIA, kK_sIA, kI_sLA, kL_sLA, kR_sLA, kK_sLA, gK w hg, gR_0 w hg, gK_1 w hg, gR_1 w hg, gK_2 w hg, gR_2 w hg, gK_3 w hg, gR_3 w hg, gK_4 w hg, gR_4 w hg, gK_5 w hg, gR_11 w hg, gK_6 w hg, gR_12 w hg, gK_7 w hg, gR_13 w hg, gK_8 w hg, gR_14 w hg, gK_9 w hg, gR_15 w hg, gK_10 w hg, gR_16 w hg, gK_11 w hg, G.1]
          refine br_t (nI_le (Nat.le_refl _) (by omega)) ?_
          rw [nI_1]
          exact ih _
        · have hl := swp_lt hB (rnds_lt hB hx t) k
          refine eX1_goUp_13 ?_
          simp only [ks_nop, ks_aload_0, ks_iload_1, ks_iload_2, ks_iload_3, ks_iload, ks_istore_2, ks_istore_3, ks_istore, ks_iconst, ks_bipush, ks_iinc, ks_iand, ks_ior, ks_ishr, ks_if_eq, ks_icmp_ge, ks_goto, ks_get0, ks_get3, ks_get1, ks_get2, ks_inv0, ks_inv1, ks_inv2, ks_inv4, ks_inv3, ks_inv5, ks_inv6, ks_inv7, ks_inv8, ks_iret0, kldi_0, kldl_0, klda_0, kldz_0, kst1_0, kst2_0, kldi_1, kldl_1, klda_1, kldz_1, kst1_1n, kst2_1n, kst1_1i, kst2_1i, kst1_1r, kst2_1r, kst1_1z, kst2_1z, kst1_1l, kst2_1l, kldi_2, kldl_2, klda_2, kldz_2, kst1_2n, kst2_2n, kst1_2i, kst2_2i, kst1_2r, kst2_2r, kst1_2z, kst2_2z, kst1_2l, kst2_2l, kldi_3, kldl_3, klda_3, kldz_3, kst1_3n, kst2_3n, kst1_3i, kst2_3i, kst1_3r, kst2_3r, kst1_3z, kst2_3z, kst1_3l, kst2_3l, kldi_4, kldl_4, klda_4, kldz_4, kst1_4n, kst2_4n, kst1_4i, kst2_4i, kst1_4r, kst2_4r, kst1_4z, kst2_4z, kst1_4l, kst2_4l, kpr_r, kcat_n, kcat_i, kcat_r, kcat_z, kcat_l, kargs_0, kargs_s, kret_v, kret_n, kret_x, zl_6, jX1_goUp_0, bX1_goUp_0, jX1_goUp_4, bX1_goUp_4, jX1_goUp_13, bX1_goUp_13, jX1_goUp_40, bX1_goUp_40, jX1_goUp_46, bX1_goUp_46, jX1_goUp_52, bX1_goUp_52, Nat.reduceAdd, Nat.reduceLeDiff, Nat.reduceEqDiff, Nat.reduceSub, Nat.zero_le, Nat.add_left_cancel_iff, true_and, and_true, if_true, if_false, reduceIte, ne_eq, not_false_eq_true, Nat.add_eq_left, Nat.left_eq_add, kI_sI, kL_sI, kR_sI, kK_sI, kI_sL, kL_sL, kR_sL, kK_sL, kI_sIA, kL_sIA, kR_sIA, kK_sIA, kI_sLA, kL_sLA, kR_sLA, kK_sLA, gK w hg, gR_0 w hg, gK_1 w hg, gR_1 w hg, gK_2 w hg, gR_2 w hg, gK_3 w hg, gR_3 w hg, gK_4 w hg, gR_4 w hg, gK_5 w hg, gR_11 w hg, gK_6 w hg, gR_12 w hg, gK_7 w hg, gR_13 w hg, gK_8 w hg, gR_14 w hg, gK_9 w hg, gR_15 w hg, gK_10 w hg, gR_16 w hg, gK_11 w hg, G.1, r2]
          refine br_f (nI_ge hk (by omega)) ?_
          rw [z_bit (by omega) (by omega), z_ite]
          have next : ∀ y, y = swp B (rnds B nn x t) (k + 1) → kRun r mX1_goUp 40 [some (.ref g), some (.int (nI x)), some (.int (nI y)), some (.int (nI t)), some (.int (nI k))] [] h Q := by
            rintro y rfl
            refine eX1_goUp_40 ?_
            simp only [ks_nop, ks_aload_0, ks_iload_1, ks_iload_2, ks_iload_3, ks_iload, ks_istore_2, ks_istore_3, ks_istore, ks_iconst, ks_bipush, ks_iinc, ks_iand, ks_ior, ks_ishr, ks_if_eq, ks_icmp_ge, ks_goto, ks_get0, ks_get3, ks_get1, ks_get2, ks_inv0, ks_inv1, ks_inv2, ks_inv4, ks_inv3, ks_inv5, ks_inv6, ks_inv7, ks_inv8, ks_iret0, kldi_0, kldl_0, klda_0, kldz_0, kst1_0, kst2_0, kldi_1, kldl_1, klda_1, kldz_1, kst1_1n, kst2_1n, kst1_1i, kst2_1i, kst1_1r, kst2_1r, kst1_1z, kst2_1z, kst1_1l, kst2_1l, kldi_2, kldl_2, klda_2, kldz_2, kst1_2n, kst2_2n, kst1_2i, kst2_2i, kst1_2r, kst2_2r, kst1_2z, kst2_2z, kst1_2l, kst2_2l, kldi_3, kldl_3, klda_3, kldz_3, kst1_3n, kst2_3n, kst1_3i, kst2_3i, kst1_3r, kst2_3r, kst1_3z, kst2_3z, kst1_3l, kst2_3l, kldi_4, kldl_4, klda_4, kldz_4, kst1_4n, kst2_4n, kst1_4i, kst2_4i, kst1_4r, kst2_4r, kst1_4z, kst2_4z, kst1_4l, kst2_4l, kpr_r, kcat_n, kcat_i, kcat_r, kcat_z, kcat_l, kargs_0, kargs_s, kret_v, kret_n, kret_x, zl_6, jX1_goUp_0, bX1_goUp_0, jX1_goUp_4, bX1_goUp_4, jX1_goUp_13, bX1_goUp_13, jX1_goUp_40, bX1_goUp_40, jX1_goUp_46, bX1_goUp_46, jX1_goUp_52, bX1_goUp_52, Nat.reduceAdd, Nat.reduceLeDiff, Nat.reduceEqDiff, Nat.reduceSub, Nat.zero_le, Nat.add_left_cancel_iff, true_and, and_true, if_true, if_false, reduceIte, ne_eq, not_false_eq_true, Nat.add_eq_left, Nat.left_eq_add, kI_sI, kL_sI, kR_sI, kK_sI, kI_sL, kL_sL, kR_sL, kK_sL, kI_sIA, kL_sIA, kR_sIA, kK_sIA, kI_sLA, kL_sLA, kR_sLA, kK_sLA, nI_1]
            exact ih2
          cases hb : (swp B (rnds B nn x t) k).testBit k with
          | false => exact br_t rfl (next _ (by rw [swp, hb]; rfl))
          | true =>
            refine br_f (by simp) ?_
            rw [← csy_name k]
            refine c_ownersOfOne w hg G hB (by omega) ?_
            rw [csy_name k]
            simp only [ks_nop, ks_aload_0, ks_iload_1, ks_iload_2, ks_iload_3, ks_iload, ks_istore_2, ks_istore_3, ks_istore, ks_iconst, ks_bipush, ks_iinc, ks_iand, ks_ior, ks_ishr, ks_if_eq, ks_icmp_ge, ks_goto, ks_get0, ks_get3, ks_get1, ks_get2, ks_inv0, ks_inv1, ks_inv2, ks_inv4, ks_inv3, ks_inv5, ks_inv6, ks_inv7, ks_inv8, ks_iret0, kldi_0, kldl_0, klda_0, kldz_0, kst1_0, kst2_0, kldi_1, kldl_1, klda_1, kldz_1, kst1_1n, kst2_1n, kst1_1i, kst2_1i, kst1_1r, kst2_1r, kst1_1z, kst2_1z, kst1_1l, kst2_1l, kldi_2, kldl_2, klda_2, kldz_2, kst1_2n, kst2_2n, kst1_2i, kst2_2i, kst1_2r, kst2_2r, kst1_2z, kst2_2z, kst1_2l, kst2_2l, kldi_3, kldl_3, klda_3, kldz_3, kst1_3n, kst2_3n, kst1_3i, kst2_3i, kst1_3r, kst2_3r, kst1_3z, kst2_3z, kst1_3l, kst2_3l, kldi_4, kldl_4, klda_4, kldz_4, kst1_4n, kst2_4n, kst1_4i, kst2_4i, kst1_4r, kst2_4r, kst1_4z, kst2_4z, kst1_4l, kst2_4l, kpr_r, kcat_n, kcat_i, kcat_r, kcat_z, kcat_l, kargs_0, kargs_s, kret_v, kret_n, kret_x, zl_6, jX1_goUp_0, bX1_goUp_0, jX1_goUp_4, bX1_goUp_4, jX1_goUp_13, bX1_goUp_13, jX1_goUp_40, bX1_goUp_40, jX1_goUp_46, bX1_goUp_46, jX1_goUp_52, bX1_goUp_52, Nat.reduceAdd, Nat.reduceLeDiff, Nat.reduceEqDiff, Nat.reduceSub, Nat.zero_le, Nat.add_left_cancel_iff, true_and, and_true, if_true, if_false, reduceIte, ne_eq, not_false_eq_true, Nat.add_eq_left, Nat.left_eq_add, kI_sI, kL_sI, kR_sI, kK_sI, kI_sL, kL_sL, kR_sL, kK_sL, kI_sIA, kL_sIA, kR_sIA, kK_sIA, kI_sLA, kL_sLA, kR_sLA, kK_sLA]
            rw [fa_or]
            exact next _ (by rw [swp, hb]; rfl)
      exact inner 0 (Nat.zero_le _)
  exact outer 0 (by omega) _
def swF (B : GB) (s b : Nat) : Nat := if 1 < (bs B b).length ∧ bsy B b 0 = s then 2 ^ (b * 4) else 0
def sw (B : GB) (s : Nat) : Nat := orf (swF B s) B.length
theorem swF_lt (hB : bok B nn) {s b : Nat} (hb : b < B.length) : swF B s b < 2 ^ 64 := by
  have := hB.1
  unfold swF
  split
  · exact Nat.pow_lt_pow_right (by omega) (by omega)
  · omega
theorem sw_lt (hB : bok B nn) (s : Nat) : sw B s < 2 ^ 64 := orf_lt _ (fun b hb => swF_lt hB hb)
theorem c_startsWith {s : Nat} (w : kW h) (hg : isG g) (G : GA (kI h g) (kI h (g + 2)) (kI h (g + 3)) (kI h (g + 4)) B nn) (hB : bok B nn) (hs : s < 10) (H : Q (.inl (some (.long (lN (sw B s))))) h) : kCalls r yX1_startsWith [.ref g, .int (nI (csy s))] h Q := by
  refine sX1_startsWith _ _ ?_
  refine eX1_startsWith_0 ?_
  simp only [ks_nop, ks_aload_0, ks_iload_1, ks_lload_2, ks_iload, ks_lstore_2, ks_istore, ks_iconst, ks_lconst, ks_iinc, ks_imul, ks_lor, ks_lshl, ks_icmp_ne, ks_icmp_ge, ks_icmp_le, ks_goto, ks_get0, ks_get3, ks_get1, ks_get2, ks_iald, ks_sld, ks_lret, kldi_0, kldl_0, klda_0, kldz_0, kst1_0, kst2_0, kldi_1, kldl_1, klda_1, kldz_1, kst1_1n, kst2_1n, kst1_1i, kst2_1i, kst1_1r, kst2_1r, kst1_1z, kst2_1z, kst1_1l, kst2_1l, kldi_2, kldl_2, klda_2, kldz_2, kst1_2n, kst2_2n, kst1_2i, kst2_2i, kst1_2r, kst2_2r, kst1_2z, kst2_2z, kst1_2l, kst2_2l, kldi_3, kldl_3, klda_3, kldz_3, kst1_3n, kst2_3n, kst1_3i, kst2_3i, kst1_3r, kst2_3r, kst1_3z, kst2_3z, kst1_3l, kst2_3l, kldi_4, kldl_4, klda_4, kldz_4, kst1_4n, kst2_4n, kst1_4i, kst2_4i, kst1_4r, kst2_4r, kst1_4z, kst2_4z, kst1_4l, kst2_4l, kcat_n, kcat_i, kcat_r, kcat_z, kcat_l, zl_4, jX1_startsWith_0, bX1_startsWith_0, jX1_startsWith_5, bX1_startsWith_5, jX1_startsWith_47, bX1_startsWith_47, jX1_startsWith_53, bX1_startsWith_53, Nat.reduceAdd, Nat.reduceLeDiff, Nat.reduceEqDiff, Nat.reduceSub, Nat.zero_le, Nat.add_left_cancel_iff, true_and, and_true, if_true, if_false, reduceIte, ne_eq, not_false_eq_true, Nat.add_eq_left, Nat.left_eq_add, kI_sI, kL_sI, kR_sI, kK_sI, kI_sL, kL_sL, kR_sL, kK_sL, kI_sIA, kL_sIA, kR_sIA, kK_sIA, kI_sLA, kL_sLA, kR_sLA, kK_sLA]
  have loop : ∀ b, b ≤ B.length → kRun r mX1_startsWith 5 [some (.ref g), some (.int (nI (csy s))), some (.long (lN (orf (swF B s) b))), none, some (.int (nI b))] [] h Q := by
    have hl := hB.1
    refine up_ind ?_ (fun b hb ih => ?_)
    · refine eX1_startsWith_5 ?_
      simp only [ks_nop, ks_aload_0, ks_iload_1, ks_lload_2, ks_iload, ks_lstore_2, ks_istore, ks_iconst, ks_lconst, ks_iinc, ks_imul, ks_lor, ks_lshl, ks_icmp_ne, ks_icmp_ge, ks_icmp_le, ks_goto, ks_get0, ks_get3, ks_get1, ks_get2, ks_iald, ks_sld, ks_lret, kldi_0, kldl_0, klda_0, kldz_0, kst1_0, kst2_0, kldi_1, kldl_1, klda_1, kldz_1, kst1_1n, kst2_1n, kst1_1i, kst2_1i, kst1_1r, kst2_1r, kst1_1z, kst2_1z, kst1_1l, kst2_1l, kldi_2, kldl_2, klda_2, kldz_2, kst1_2n, kst2_2n, kst1_2i, kst2_2i, kst1_2r, kst2_2r, kst1_2z, kst2_2z, kst1_2l, kst2_2l, kldi_3, kldl_3, klda_3, kldz_3, kst1_3n, kst2_3n, kst1_3i, kst2_3i, kst1_3r, kst2_3r, kst1_3z, kst2_3z, kst1_3l, kst2_3l, kldi_4, kldl_4, klda_4, kldz_4, kst1_4n, kst2_4n, kst1_4i, kst2_4i, kst1_4r, kst2_4r, kst1_4z, kst2_4z, kst1_4l, kst2_4l, kcat_n, kcat_i, kcat_r, kcat_z, kcat_l, zl_4, jX1_startsWith_0, bX1_startsWith_0, jX1_startsWith_5, bX1_startsWith_5, jX1_startsWith_47, bX1_startsWith_47, jX1_startsWith_53, bX1_startsWith_53, Nat.reduceAdd, Nat.reduceLeDiff, Nat.reduceEqDiff, Nat.reduceSub, Nat.zero_le, Nat.add_left_cancel_iff, true_and, and_true, if_true, if_false, reduceIte, ne_eq, not_false_eq_true, Nat.add_eq_left, Nat.left_eq_add, kI_sI, kL_sI, kR_sI, kK_sI, kI_sL, kL_sL, kR_sL, kK_sL, kI_sIA, kL_sIA, kR_sIA, kK_sIA, kI_sLA, kL_sLA, kR_sLA, kK_sLA, gK w hg, gR_0 w hg, gK_1 w hg, gR_1 w hg, gK_2 w hg, gR_2 w hg, gK_3 w hg, gR_3 w hg, gK_4 w hg, gR_4 w hg, gK_5 w hg, gR_11 w hg, gK_6 w hg, gR_12 w hg, gK_7 w hg, gR_13 w hg, gK_8 w hg, gR_14 w hg, gK_9 w hg, gR_15 w hg, gK_10 w hg, gR_16 w hg, gK_11 w hg, G.2.1]
      exact br_t (nI_le (Nat.le_refl _) (by omega)) H
    · obtain ⟨g1, g2, g3⟩ := G.2.2 b hb
      obtain ⟨k1, k2, k3, k4⟩ := hB.2.2 b hb
      have g30 : kI h (g + 4) (b * 4) = nI (csy (bsy B b 0)) := g3 0 (by omega)
      have hn := hB.2.1
      refine eX1_startsWith_5 ?_
      simp only [ks_nop, ks_aload_0, ks_iload_1, ks_lload_2, ks_iload, ks_lstore_2, ks_istore, ks_iconst, ks_lconst, ks_iinc, ks_imul, ks_lor, ks_lshl, ks_icmp_ne, ks_icmp_ge, ks_icmp_le, ks_goto, ks_get0, ks_get3, ks_get1, ks_get2, ks_iald, ks_sld, ks_lret, kldi_0, kldl_0, klda_0, kldz_0, kst1_0, kst2_0, kldi_1, kldl_1, klda_1, kldz_1, kst1_1n, kst2_1n, kst1_1i, kst2_1i, kst1_1r, kst2_1r, kst1_1z, kst2_1z, kst1_1l, kst2_1l, kldi_2, kldl_2, klda_2, kldz_2, kst1_2n, kst2_2n, kst1_2i, kst2_2i, kst1_2r, kst2_2r, kst1_2z, kst2_2z, kst1_2l, kst2_2l, kldi_3, kldl_3, klda_3, kldz_3, kst1_3n, kst2_3n, kst1_3i, kst2_3i, kst1_3r, kst2_3r, kst1_3z, kst2_3z, kst1_3l, kst2_3l, kldi_4, kldl_4, klda_4, kldz_4, kst1_4n, kst2_4n, kst1_4i, kst2_4i, kst1_4r, kst2_4r, kst1_4z, kst2_4z, kst1_4l, kst2_4l, kcat_n, kcat_i, kcat_r, kcat_z, kcat_l, zl_4, jX1_startsWith_0, bX1_startsWith_0, jX1_startsWith_5, bX1_startsWith_5, jX1_startsWith_47, bX1_startsWith_47, jX1_startsWith_53, bX1_startsWith_53, Nat.reduceAdd, Nat.reduceLeDiff, Nat.reduceEqDiff, Nat.reduceSub, Nat.zero_le, Nat.add_left_cancel_iff, true_and, and_true, if_true, if_false, reduceIte, ne_eq, not_false_eq_true, Nat.add_eq_left, Nat.left_eq_add, kI_sI, kL_sI, kR_sI, kK_sI, kI_sL, kL_sL, kR_sL, kK_sL, kI_sIA, kL_sIA, kR_sIA, kK_sIA, kI_sLA, kL_sLA, kR_sLA, kK_sLA, gK w hg, gR_0 w hg, gK_1 w hg, gR_1 w hg, gK_2 w hg, gR_2 w hg, gK_3 w hg, gR_3 w hg, gK_4 w hg, gR_4 w hg, gK_5 w hg, gR_11 w hg, gK_6 w hg, gR_12 w hg, gK_7 w hg, gR_13 w hg, gK_8 w hg, gR_14 w hg, gK_9 w hg, gR_15 w hg, gK_10 w hg, gR_16 w hg, gK_11 w hg, G.2.1]
      rw [nI_clamp (n := b) (by omega), pk_mul, nI_clamp (n := b * 4) (by omega), g2, g30]
      refine br_f (nI_ge hb (by omega)) ⟨vp_in_nI (by omega) (by omega), ?_⟩
      have next : ∀ x, x = orf (swF B s) (b + 1) → kRun r mX1_startsWith 47 [some (.ref g), some (.int (nI (csy s))), some (.long (lN x)), none, some (.int (nI b))] [] h Q := by
        rintro x rfl
        refine eX1_startsWith_47 ?_
        simp only [ks_nop, ks_aload_0, ks_iload_1, ks_lload_2, ks_iload, ks_lstore_2, ks_istore, ks_iconst, ks_lconst, ks_iinc, ks_imul, ks_lor, ks_lshl, ks_icmp_ne, ks_icmp_ge, ks_icmp_le, ks_goto, ks_get0, ks_get3, ks_get1, ks_get2, ks_iald, ks_sld, ks_lret, kldi_0, kldl_0, klda_0, kldz_0, kst1_0, kst2_0, kldi_1, kldl_1, klda_1, kldz_1, kst1_1n, kst2_1n, kst1_1i, kst2_1i, kst1_1r, kst2_1r, kst1_1z, kst2_1z, kst1_1l, kst2_1l, kldi_2, kldl_2, klda_2, kldz_2, kst1_2n, kst2_2n, kst1_2i, kst2_2i, kst1_2r, kst2_2r, kst1_2z, kst2_2z, kst1_2l, kst2_2l, kldi_3, kldl_3, klda_3, kldz_3, kst1_3n, kst2_3n, kst1_3i, kst2_3i, kst1_3r, kst2_3r, kst1_3z, kst2_3z, kst1_3l, kst2_3l, kldi_4, kldl_4, klda_4, kldz_4, kst1_4n, kst2_4n, kst1_4i, kst2_4i, kst1_4r, kst2_4r, kst1_4z, kst2_4z, kst1_4l, kst2_4l, kcat_n, kcat_i, kcat_r, kcat_z, kcat_l, zl_4, jX1_startsWith_0, bX1_startsWith_0, jX1_startsWith_5, bX1_startsWith_5, jX1_startsWith_47, bX1_startsWith_47, jX1_startsWith_53, bX1_startsWith_53, Nat.reduceAdd, Nat.reduceLeDiff, Nat.reduceEqDiff, Nat.reduceSub, Nat.zero_le, Nat.add_left_cancel_iff, true_and, and_true, if_true, if_false, reduceIte, ne_eq, not_false_eq_true, Nat.add_eq_left, Nat.left_eq_add, kI_sI, kL_sI, kR_sI, kK_sI, kI_sL, kL_sL, kR_sL, kK_sL, kI_sIA, kL_sIA, kR_sIA, kK_sIA, kI_sLA, kL_sLA, kR_sLA, kK_sLA, nI_1]
        exact ih
      have c10 := csy_lt hs
      have c11 := csy_lt (s := bsy B b 0) (by have := k4 0 (by omega); omega)
      by_cases h1 : 1 < (bs B b).length
      · refine br_f (nI_ge (a := 1) h1 (by omega)) ⟨vp_in_nI (by omega) (by omega), ?_⟩
        by_cases h2 : bsy B b 0 = s
        · refine br_f (by rw [h2]; simp) ?_
          have b1 : orf (swF B s) b < 2 ^ 64 := orf_lt _ (fun b' hb' => swF_lt hB (by omega))
          have b2 : 2 ^ (b * 4) < 2 ^ 64 := Nat.pow_lt_pow_right (by omega) (by omega)
          rw [show (1 : Int64) = lN 1 from rfl, L_lsl (by omega), Nat.one_mul, L_or b1 b2]
          exact next _ (by rw [orf, swF, if_pos ⟨h1, h2⟩])
        · refine br_t (fun e => h2 ?_) (next _ (by rw [orf, swF, if_neg (fun q => h2 q.2), Nat.or_zero]))
          have := (nI_eq (by omega) (by omega)).mp e
          exact (csy_inj (by have := k4 0 (by omega); omega) hs).mp this
      · exact br_t (nI_le (b := 1) (by omega) (by omega)) (next _ (by rw [orf, swF, if_neg (fun q => h1 q.1), Nat.or_zero]))
  exact loop 0 (Nat.zero_le _)
def wfI (B : GB) (s b k : Nat) : Nat := if bsy B b (k + 1) = s then 2 ^ (b * 4 + k) else 0
def wfF (B : GB) (s b : Nat) : Nat := orf (wfI B s b) ((bs B b).length - 1)
def wf (B : GB) (s : Nat) : Nat := orf (wfF B s) B.length
theorem wfI_lt {s b k : Nat} (hb : b < 16) (hk : k < 4) : wfI B s b k < 2 ^ 64 := by
  unfold wfI
  split
  · exact Nat.pow_lt_pow_right (by omega) (by omega)
  · omega
theorem wfF_lt (hB : bok B nn) {s b : Nat} (hb : b < B.length) : wfF B s b < 2 ^ 64 := orf_lt _ (fun k hk => wfI_lt (by have := hB.1; omega) (by have := (hB.2.2 b hb).2.2.1; omega))
theorem wf_lt (hB : bok B nn) (s : Nat) : wf B s < 2 ^ 64 := orf_lt _ (fun b hb => wfF_lt hB hb)
theorem c_waitsFor {s : Nat} (w : kW h) (hg : isG g) (G : GA (kI h g) (kI h (g + 2)) (kI h (g + 3)) (kI h (g + 4)) B nn) (hB : bok B nn) (hs : s < 10) (H : Q (.inl (some (.long (lN (wf B s))))) h) : kCalls r yX1_waitsFor [.ref g, .int (nI (csy s))] h Q := by
  refine sX1_waitsFor _ _ ?_
  refine eX1_waitsFor_0 ?_
  simp only [ks_nop, ks_aload_0, ks_iload_1, ks_lload_2, ks_iload, ks_lstore_2, ks_istore, ks_iconst, ks_lconst, ks_iinc, ks_iadd, ks_isub, ks_imul, ks_lor, ks_lshl, ks_icmp_ne, ks_icmp_ge, ks_goto, ks_get0, ks_get3, ks_get1, ks_get2, ks_iald, ks_sld, ks_lret, kldi_0, kldl_0, klda_0, kldz_0, kst1_0, kst2_0, kldi_1, kldl_1, klda_1, kldz_1, kst1_1n, kst2_1n, kst1_1i, kst2_1i, kst1_1r, kst2_1r, kst1_1z, kst2_1z, kst1_1l, kst2_1l, kldi_2, kldl_2, klda_2, kldz_2, kst1_2n, kst2_2n, kst1_2i, kst2_2i, kst1_2r, kst2_2r, kst1_2z, kst2_2z, kst1_2l, kst2_2l, kldi_3, kldl_3, klda_3, kldz_3, kst1_3n, kst2_3n, kst1_3i, kst2_3i, kst1_3r, kst2_3r, kst1_3z, kst2_3z, kst1_3l, kst2_3l, kldi_4, kldl_4, klda_4, kldz_4, kst1_4n, kst2_4n, kst1_4i, kst2_4i, kst1_4r, kst2_4r, kst1_4z, kst2_4z, kst1_4l, kst2_4l, kldi_5, kldl_5, klda_5, kldz_5, kst1_5n, kst2_5n, kst1_5i, kst2_5i, kst1_5r, kst2_5r, kst1_5z, kst2_5z, kst1_5l, kst2_5l, kcat_n, kcat_i, kcat_r, kcat_z, kcat_l, zl_4, jX1_waitsFor_0, bX1_waitsFor_0, jX1_waitsFor_5, bX1_waitsFor_5, jX1_waitsFor_17, bX1_waitsFor_17, jX1_waitsFor_59, bX1_waitsFor_59, jX1_waitsFor_65, bX1_waitsFor_65, jX1_waitsFor_71, bX1_waitsFor_71, Nat.reduceAdd, Nat.reduceLeDiff, Nat.reduceEqDiff, Nat.reduceSub, Nat.zero_le, Nat.add_left_cancel_iff, true_and, and_true, if_true, if_false, reduceIte, ne_eq, not_false_eq_true, Nat.add_eq_left, Nat.left_eq_add, kI_sI, kL_sI, kR_sI, kK_sI, kI_sL, kL_sL, kR_sL, kK_sL, kI_sIA, kL_sIA, kR_sIA, kK_sIA, kI_sLA, kL_sLA, kR_sLA, kK_sLA]
  have loop : ∀ b, b ≤ B.length → ∀ e5 : Option Value, kRun r mX1_waitsFor 5 [some (.ref g), some (.int (nI (csy s))), some (.long (lN (orf (wfF B s) b))), none, some (.int (nI b)), e5] [] h Q := by
    have hl := hB.1
    refine up_ind ?_ (fun b hb ih => ?_)
    · intro e5
      refine eX1_waitsFor_5 ?_
      simp only [ks_nop, ks_aload_0, ks_iload_1, ks_lload_2, ks_iload, ks_lstore_2, ks_istore, ks_iconst, ks_lconst, ks_iinc, ks_iadd, ks_isub, ks_imul, ks_lor, ks_lshl, ks_icmp_ne, ks_icmp_ge, ks_goto, ks_get0, ks_get3, ks_get1, ks_get2, ks_iald, ks_sld, ks_lret, kldi_0, kldl_0, klda_0, kldz_0, kst1_0, kst2_0, kldi_1, kldl_1, klda_1, kldz_1, kst1_1n, kst2_1n, kst1_1i, kst2_1i, kst1_1r, kst2_1r, kst1_1z, kst2_1z, kst1_1l, kst2_1l, kldi_2, kldl_2, klda_2, kldz_2, kst1_2n, kst2_2n, kst1_2i, kst2_2i, kst1_2r, kst2_2r, kst1_2z, kst2_2z, kst1_2l, kst2_2l, kldi_3, kldl_3, klda_3, kldz_3, kst1_3n, kst2_3n, kst1_3i, kst2_3i, kst1_3r, kst2_3r, kst1_3z, kst2_3z, kst1_3l, kst2_3l, kldi_4, kldl_4, klda_4, kldz_4, kst1_4n, kst2_4n, kst1_4i, kst2_4i, kst1_4r, kst2_4r, kst1_4z, kst2_4z, kst1_4l, kst2_4l, kldi_5, kldl_5, klda_5, kldz_5, kst1_5n, kst2_5n, kst1_5i, kst2_5i, kst1_5r, kst2_5r, kst1_5z, kst2_5z, kst1_5l, kst2_5l, kcat_n, kcat_i, kcat_r, kcat_z, kcat_l, zl_4, jX1_waitsFor_0, bX1_waitsFor_0, jX1_waitsFor_5, bX1_waitsFor_5, jX1_waitsFor_17, bX1_waitsFor_17, jX1_waitsFor_59, bX1_waitsFor_59, jX1_waitsFor_65, bX1_waitsFor_65, jX1_waitsFor_71, bX1_waitsFor_71, Nat.reduceAdd, Nat.reduceLeDiff, Nat.reduceEqDiff, Nat.reduceSub, Nat.zero_le, Nat.add_left_cancel_iff, true_and, and_true, if_true, if_false, reduceIte, ne_eq, not_false_eq_true, Nat.add_eq_left, Nat.left_eq_add, kI_sI, kL_sI, kR_sI, kK_sI, kI_sL, kL_sL, kR_sL, kK_sL, kI_sIA, kL_sIA, kR_sIA, kK_sIA, kI_sLA, kL_sLA, kR_sLA, kK_sLA, gK w hg, gR_0 w hg, gK_1 w hg, gR_1 w hg, gK_2 w hg, gR_2 w hg, gK_3 w hg, gR_3 w hg, gK_4 w hg, gR_4 w hg, gK_5 w hg, gR_11 w hg, gK_6 w hg, gR_12 w hg, gK_7 w hg, gR_13 w hg, gK_8 w hg, gR_14 w hg, gK_9 w hg, gR_15 w hg, gK_10 w hg, gR_16 w hg, gK_11 w hg, G.2.1]
      exact br_t (nI_le (Nat.le_refl _) (by omega)) H
    · intro e5
      obtain ⟨g1, g2, g3⟩ := G.2.2 b hb
      obtain ⟨k1, k2, k3, k4⟩ := hB.2.2 b hb
      have hn := hB.2.1
      refine eX1_waitsFor_5 ?_
      simp only [ks_nop, ks_aload_0, ks_iload_1, ks_lload_2, ks_iload, ks_lstore_2, ks_istore, ks_iconst, ks_lconst, ks_iinc, ks_iadd, ks_isub, ks_imul, ks_lor, ks_lshl, ks_icmp_ne, ks_icmp_ge, ks_goto, ks_get0, ks_get3, ks_get1, ks_get2, ks_iald, ks_sld, ks_lret, kldi_0, kldl_0, klda_0, kldz_0, kst1_0, kst2_0, kldi_1, kldl_1, klda_1, kldz_1, kst1_1n, kst2_1n, kst1_1i, kst2_1i, kst1_1r, kst2_1r, kst1_1z, kst2_1z, kst1_1l, kst2_1l, kldi_2, kldl_2, klda_2, kldz_2, kst1_2n, kst2_2n, kst1_2i, kst2_2i, kst1_2r, kst2_2r, kst1_2z, kst2_2z, kst1_2l, kst2_2l, kldi_3, kldl_3, klda_3, kldz_3, kst1_3n, kst2_3n, kst1_3i, kst2_3i, kst1_3r, kst2_3r, kst1_3z, kst2_3z, kst1_3l, kst2_3l, kldi_4, kldl_4, klda_4, kldz_4, kst1_4n, kst2_4n, kst1_4i, kst2_4i, kst1_4r, kst2_4r, kst1_4z, kst2_4z, kst1_4l, kst2_4l, kldi_5, kldl_5, klda_5, kldz_5, kst1_5n, kst2_5n, kst1_5i, kst2_5i, kst1_5r, kst2_5r, kst1_5z, kst2_5z, kst1_5l, kst2_5l, kcat_n, kcat_i, kcat_r, kcat_z, kcat_l, zl_4, jX1_waitsFor_0, bX1_waitsFor_0, jX1_waitsFor_5, bX1_waitsFor_5, jX1_waitsFor_17, bX1_waitsFor_17, jX1_waitsFor_59, bX1_waitsFor_59, jX1_waitsFor_65, bX1_waitsFor_65, jX1_waitsFor_71, bX1_waitsFor_71, Nat.reduceAdd, Nat.reduceLeDiff, Nat.reduceEqDiff, Nat.reduceSub, Nat.zero_le, Nat.add_left_cancel_iff, true_and, and_true, if_true, if_false, reduceIte, ne_eq, not_false_eq_true, Nat.add_eq_left, Nat.left_eq_add, kI_sI, kL_sI, kR_sI, kK_sI, kI_sL, kL_sL, kR_sL, kK_sL, kI_sIA, kL_sIA, kR_sIA, kK_sIA, kI_sLA, kL_sLA, kR_sLA, kK_sLA, gK w hg, gR_0 w hg, gK_1 w hg, gR_1 w hg, gK_2 w hg, gR_2 w hg, gK_3 w hg, gR_3 w hg, gK_4 w hg, gR_4 w hg, gK_5 w hg, gR_11 w hg, gK_6 w hg, gR_12 w hg, gK_7 w hg, gR_13 w hg, gK_8 w hg, gR_14 w hg, gK_9 w hg, gR_15 w hg, gK_10 w hg, gR_16 w hg, gK_11 w hg, G.2.1]
      refine br_f (nI_ge hb (by omega)) ?_
      have inner : ∀ k, k ≤ (bs B b).length - 1 → kRun r mX1_waitsFor 17 [some (.ref g), some (.int (nI (csy s))), some (.long (lN (orf (wfF B s) b ||| orf (wfI B s b) k))), none, some (.int (nI b)), some (.int (nI (k + 1)))] [] h Q := by
        refine up_ind ?_ (fun k hk ih2 => ?_)
        · refine eX1_waitsFor_17 ?_
          simp only [ks_nop, ks_aload_0, ks_iload_1, ks_lload_2, ks_iload, ks_lstore_2, ks_istore, ks_iconst, ks_lconst, ks_iinc, ks_iadd, ks_isub, ks_imul, ks_lor, ks_lshl, ks_icmp_ne, ks_icmp_ge, ks_goto, ks_get0, ks_get3, ks_get1, ks_get2, ks_iald, ks_sld, ks_lret, kldi_0, kldl_0, klda_0, kldz_0, kst1_0, kst2_0, kldi_1, kldl_1, klda_1, kldz_1, kst1_1n, kst2_1n, kst1_1i, kst2_1i, kst1_1r, kst2_1r, kst1_1z, kst2_1z, kst1_1l, kst2_1l, kldi_2, kldl_2, klda_2, kldz_2, kst1_2n, kst2_2n, kst1_2i, kst2_2i, kst1_2r, kst2_2r, kst1_2z, kst2_2z, kst1_2l, kst2_2l, kldi_3, kldl_3, klda_3, kldz_3, kst1_3n, kst2_3n, kst1_3i, kst2_3i, kst1_3r, kst2_3r, kst1_3z, kst2_3z, kst1_3l, kst2_3l, kldi_4, kldl_4, klda_4, kldz_4, kst1_4n, kst2_4n, kst1_4i, kst2_4i, kst1_4r, kst2_4r, kst1_4z, kst2_4z, kst1_4l, kst2_4l, kldi_5, kldl_5, klda_5, kldz_5, kst1_5n, kst2_5n, kst1_5i, kst2_5i, kst1_5r, kst2_5r, kst1_5z, kst2_5z, kst1_5l, kst2_5l, kcat_n, kcat_i, kcat_r, kcat_z, kcat_l, zl_4, jX1_waitsFor_0, bX1_waitsFor_0, jX1_waitsFor_5, bX1_waitsFor_5, jX1_waitsFor_17, bX1_waitsFor_17, jX1_waitsFor_59, bX1_waitsFor_59, jX1_waitsFor_65, bX1_waitsFor_65, jX1_waitsFor_71, bX1_waitsFor_71, Nat.reduceAdd, Nat.reduceLeDiff, Nat.reduceEqDiff, Nat.reduceSub, Nat.zero_le, Nat.add_left_cancel_iff, true_and, and_true, if_true, if_false, reduceIte, ne_eq, not_false_eq_true, Nat.add_eq_left, Nat.left_eq_add, kI_sI, kL_sI, kR_sI, kK_sI, kI_sL, kL_sL, kR_sL, kK_sL, kI_sIA, kL_sIA, kR_sIA, kK_sIA, kI_sLA, kL_sLA, kR_sLA, kK_sLA, gK w hg, gR_0 w hg, gK_1 w hg, gR_1 w hg, gK_2 w hg, gR_2 w hg, gK_3 w hg, gR_3 w hg, gK_4 w hg, gR_4 w hg, gK_5 w hg, gR_11 w hg, gK_6 w hg, gR_12 w hg, gK_7 w hg, gR_13 w hg, gK_8 w hg, gR_14 w hg, gK_9 w hg, gR_15 w hg, gK_10 w hg, gR_16 w hg, gK_11 w hg]
          rw [nI_clamp (n := b) (by omega), g2]
          refine ⟨vp_in_nI (by omega) (by omega), br_t (nI_le (by omega) (by omega)) ?_⟩
          rw [nI_1]
          have := ih (some (.int (nI ((bs B b).length - 1 + 1))))
          rw [orf, wfF] at this
          exact this
        · have g3k := g3 (k + 1) (by omega)
          have k4k := k4 (k + 1) (by omega)
          refine eX1_waitsFor_17 ?_
          simp only [ks_nop, ks_aload_0, ks_iload_1, ks_lload_2, ks_iload, ks_lstore_2, ks_istore, ks_iconst, ks_lconst, ks_iinc, ks_iadd, ks_isub, ks_imul, ks_lor, ks_lshl, ks_icmp_ne, ks_icmp_ge, ks_goto, ks_get0, ks_get3, ks_get1, ks_get2, ks_iald, ks_sld, ks_lret, kldi_0, kldl_0, klda_0, kldz_0, kst1_0, kst2_0, kldi_1, kldl_1, klda_1, kldz_1, kst1_1n, kst2_1n, kst1_1i, kst2_1i, kst1_1r, kst2_1r, kst1_1z, kst2_1z, kst1_1l, kst2_1l, kldi_2, kldl_2, klda_2, kldz_2, kst1_2n, kst2_2n, kst1_2i, kst2_2i, kst1_2r, kst2_2r, kst1_2z, kst2_2z, kst1_2l, kst2_2l, kldi_3, kldl_3, klda_3, kldz_3, kst1_3n, kst2_3n, kst1_3i, kst2_3i, kst1_3r, kst2_3r, kst1_3z, kst2_3z, kst1_3l, kst2_3l, kldi_4, kldl_4, klda_4, kldz_4, kst1_4n, kst2_4n, kst1_4i, kst2_4i, kst1_4r, kst2_4r, kst1_4z, kst2_4z, kst1_4l, kst2_4l, kldi_5, kldl_5, klda_5, kldz_5, kst1_5n, kst2_5n, kst1_5i, kst2_5i, kst1_5r, kst2_5r, kst1_5z, kst2_5z, kst1_5l, kst2_5l, kcat_n, kcat_i, kcat_r, kcat_z, kcat_l, zl_4, jX1_waitsFor_0, bX1_waitsFor_0, jX1_waitsFor_5, bX1_waitsFor_5, jX1_waitsFor_17, bX1_waitsFor_17, jX1_waitsFor_59, bX1_waitsFor_59, jX1_waitsFor_65, bX1_waitsFor_65, jX1_waitsFor_71, bX1_waitsFor_71, Nat.reduceAdd, Nat.reduceLeDiff, Nat.reduceEqDiff, Nat.reduceSub, Nat.zero_le, Nat.add_left_cancel_iff, true_and, and_true, if_true, if_false, reduceIte, ne_eq, not_false_eq_true, Nat.add_eq_left, Nat.left_eq_add, kI_sI, kL_sI, kR_sI, kK_sI, kI_sL, kL_sL, kR_sL, kK_sL, kI_sIA, kL_sIA, kR_sIA, kK_sIA, kI_sLA, kL_sLA, kR_sLA, kK_sLA, gK w hg, gR_0 w hg, gK_1 w hg, gR_1 w hg, gK_2 w hg, gR_2 w hg, gK_3 w hg, gR_3 w hg, gK_4 w hg, gR_4 w hg, gK_5 w hg, gR_11 w hg, gK_6 w hg, gR_12 w hg, gK_7 w hg, gR_13 w hg, gK_8 w hg, gR_14 w hg, gK_9 w hg, gR_15 w hg, gK_10 w hg, gR_16 w hg, gK_11 w hg]
          rw [nI_clamp (n := b) (by omega), pk_mul, nI_add, nI_clamp (n := b * 4 + (k + 1)) (by omega), g2, g3k]
          refine ⟨vp_in_nI (by omega) (by omega), br_f (nI_ge (by omega) (by omega)) ⟨vp_in_nI (by omega) (by omega), ?_⟩⟩
          have next : ∀ x, x = orf (wfF B s) b ||| orf (wfI B s b) (k + 1) → kRun r mX1_waitsFor 59 [some (.ref g), some (.int (nI (csy s))), some (.long (lN x)), none, some (.int (nI b)), some (.int (nI (k + 1)))] [] h Q := by
            rintro x rfl
            refine eX1_waitsFor_59 ?_
            simp only [ks_nop, ks_aload_0, ks_iload_1, ks_lload_2, ks_iload, ks_lstore_2, ks_istore, ks_iconst, ks_lconst, ks_iinc, ks_iadd, ks_isub, ks_imul, ks_lor, ks_lshl, ks_icmp_ne, ks_icmp_ge, ks_goto, ks_get0, ks_get3, ks_get1, ks_get2, ks_iald, ks_sld, ks_lret, kldi_0, kldl_0, klda_0, kldz_0, kst1_0, kst2_0, kldi_1, kldl_1, klda_1, kldz_1, kst1_1n, kst2_1n, kst1_1i, kst2_1i, kst1_1r, kst2_1r, kst1_1z, kst2_1z, kst1_1l, kst2_1l, kldi_2, kldl_2, klda_2, kldz_2, kst1_2n, kst2_2n, kst1_2i, kst2_2i, kst1_2r, kst2_2r, kst1_2z, kst2_2z, kst1_2l, kst2_2l, kldi_3, kldl_3, klda_3, kldz_3, kst1_3n, kst2_3n, kst1_3i, kst2_3i, kst1_3r, kst2_3r, kst1_3z, kst2_3z, kst1_3l, kst2_3l, kldi_4, kldl_4, klda_4, kldz_4, kst1_4n, kst2_4n, kst1_4i, kst2_4i, kst1_4r, kst2_4r, kst1_4z, kst2_4z, kst1_4l, kst2_4l, kldi_5, kldl_5, klda_5, kldz_5, kst1_5n, kst2_5n, kst1_5i, kst2_5i, kst1_5r, kst2_5r, kst1_5z, kst2_5z, kst1_5l, kst2_5l, kcat_n, kcat_i, kcat_r, kcat_z, kcat_l, zl_4, jX1_waitsFor_0, bX1_waitsFor_0, jX1_waitsFor_5, bX1_waitsFor_5, jX1_waitsFor_17, bX1_waitsFor_17, jX1_waitsFor_59, bX1_waitsFor_59, jX1_waitsFor_65, bX1_waitsFor_65, jX1_waitsFor_71, bX1_waitsFor_71, Nat.reduceAdd, Nat.reduceLeDiff, Nat.reduceEqDiff, Nat.reduceSub, Nat.zero_le, Nat.add_left_cancel_iff, true_and, and_true, if_true, if_false, reduceIte, ne_eq, not_false_eq_true, Nat.add_eq_left, Nat.left_eq_add, kI_sI, kL_sI, kR_sI, kK_sI, kI_sL, kL_sL, kR_sL, kK_sL, kI_sIA, kL_sIA, kR_sIA, kK_sIA, kI_sLA, kL_sLA, kR_sLA, kK_sLA, nI_1]
            exact ih2
          have c10 := csy_lt hs
          have c11 := csy_lt (s := bsy B b (k + 1)) (by omega)
          by_cases h2 : bsy B b (k + 1) = s
          · refine br_f (by rw [h2]; simp) ?_
            rw [nI_subm (by omega), show b * 4 + (k + 1) - 1 = b * 4 + k by omega, show (1 : Int64) = lN 1 from rfl, L_lsl (by omega), Nat.one_mul]
            have b3 : 2 ^ (b * 4 + k) < 2 ^ 64 := Nat.pow_lt_pow_right (by omega) (by omega)
            have b2 : orf (wfI B s b) k < 2 ^ 64 := orf_lt _ (fun k' hk' => wfI_lt (by omega) (by omega))
            have b1 : orf (wfF B s) b < 2 ^ 64 := orf_lt _ (fun b' hb' => wfF_lt hB (Nat.lt_trans hb' hb))
            rw [L_or (nor_lt b1 b2) b3]
            exact next _ (by rw [orf, wfI, if_pos h2, Nat.or_assoc])
          · refine br_t (fun e => h2 ?_) (next _ (by rw [orf, wfI, if_neg h2, Nat.or_zero]))
            have := (nI_eq (by omega) (by omega)).mp e
            exact (csy_inj (by omega) hs).mp this
      have := inner 0 (Nat.zero_le _)
      rw [orf, Nat.or_zero] at this
      exact this
  exact loop 0 (Nat.zero_le _) _
end GR

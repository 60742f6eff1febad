/-! the first bit of a set from a place on; how many bits -/
def bf (m f : Nat) : Nat := fa_first (fun i => decide (f ≤ i) && m.testBit i) 32
theorem z_m1sh : ∀ f, f < 32 → (kshl (-1) (nI f)).toBitVec = BitVec.allOnes 32 <<< f := by decide
theorem z_from {m f : Nat} (hm : m < 2 ^ 31) (hf : f < 32) : nI m &&& kshl (-1) (nI f) = nI (m / 2 ^ f * 2 ^ f) := by
  apply z_inj
  apply BitVec.eq_of_getLsbD_eq
  intro i hi
  rw [Int32.toBitVec_and, z_m1sh f hf, z_bv, z_bv]
  simp only [BitVec.getLsbD_and, BitVec.getLsbD_ofNat, BitVec.getLsbD_shiftLeft, BitVec.getLsbD_allOnes, hi, decide_true, Bool.true_and]
  rw [Nat.mul_comm, Nat.testBit_two_pow_mul]
  by_cases h : f ≤ i
  · rw [← Nat.shiftRight_eq_div_pow, Nat.testBit_shiftRight, show f + (i - f) = i by omega]
    simp [h, Nat.not_lt.mpr h]
    omega
  · simp [h]
theorem low_bit {m : Nat} (h0 : 0 < m) : ∃ t q, m = 2 ^ (t + 1) * q + 2 ^ t := by
  induction m using Nat.strongRecOn with
  | _ m ih =>
    by_cases h2 : m % 2 = 1
    · exact ⟨0, m / 2, by simp; omega⟩
    · obtain ⟨t, q, e⟩ := ih (m / 2) (by omega) (by omega)
      refine ⟨t + 1, q, ?_⟩
      have : m = 2 * (m / 2) := by omega
      rw [this, e, Nat.mul_add, ← Nat.mul_assoc, ← Nat.pow_succ', ← Nat.pow_succ']
theorem low_ndf {t q : Nat} : ndf (2 ^ (t + 1) * q + 2 ^ t - 1) (2 ^ (t + 1) * q + 2 ^ t) = 2 ^ t - 1 := by
  have hp := Nat.two_pow_pos t
  have hlt : 2 ^ t < 2 ^ (t + 1) := by rw [Nat.pow_succ]; omega
  have e1 : 2 ^ (t + 1) * q + 2 ^ t - 1 = 2 ^ (t + 1) * q + (2 ^ t - 1) := by omega
  apply Nat.eq_of_testBit_eq
  intro j
  rw [ndf_bit, e1, Nat.testBit_two_pow_mul_add q (by omega), Nat.testBit_two_pow_mul_add q hlt, nb_pow, Nat.testBit_two_pow_sub_one]
  by_cases hj : j < t + 1
  · simp only [hj, if_true]
    by_cases h1 : j < t
    · simp [h1]; omega
    · simp [h1]
  · simp only [hj, if_false]
    simp
    omega
theorem low_bits {t q : Nat} : (2 ^ (t + 1) * q + 2 ^ t).testBit t = true ∧ ∀ j, j < t → (2 ^ (t + 1) * q + 2 ^ t).testBit j = false := by
  have hlt : 2 ^ t < 2 ^ (t + 1) := by rw [Nat.pow_succ]; have := Nat.two_pow_pos t; omega
  refine ⟨?_, fun j hj => ?_⟩
  · rw [Nat.testBit_two_pow_mul_add q hlt, nb_pow]; simp
  · rw [Nat.testBit_two_pow_mul_add q hlt, nb_pow]
    simp [show j < t + 1 by omega]; omega
theorem first_eq {p : Nat → Bool} {n t : Nat} (ht : t < n) (h1 : p t = true) (h2 : ∀ j, j < t → p j = false) : fa_first p n = t := by
  have a := fa_first_le p n
  have b := fa_first_no p n
  have c := fa_first_yes p n
  rcases Nat.lt_trichotomy (fa_first p n) t with h | h | h
  · have := c (by omega)
    rw [h2 _ h] at this
    cases this
  · exact h
  · have := b t h
    rw [h1] at this
    cases this
theorem first_none {p : Nat → Bool} {n : Nat} (h : ∀ j, j < n → p j = false) : fa_first p n = n := by
  have a := fa_first_le p n
  rcases Nat.lt_or_ge (fa_first p n) n with q | q
  · have := fa_first_yes p n q
    rw [h _ q] at this
    cases this
  · omega
section ST
variable {r : Nat} {h : KH} {Q : KO → KH → Prop}
theorem c_ntz0 (H : Q (.inl (some (.int (nI 32)))) h) : kCalls r yJ6_numberOfTrailingZeros_0f7a4 [.int (nI 0)] h Q := by
  refine sJ6_numberOfTrailingZeros_0f7a4 _ ?_
  refine eJ6_numberOfTrailingZeros_0f7a4_0 ?_
  simp only [ks_nop, ks_iload_0, ks_iload_1, ks_istore_0, ks_istore_1, ks_iconst, ks_bipush, ks_sipush, ks_ldc_w, ks_iinc, ks_iadd, ks_isub, ks_iand, ks_ixor, ks_iushr, ks_if_gt, ks_icmp_le, ks_iret0, kldi_0, kldl_0, klda_0, kldz_0, kst1_0, kst2_0, kldi_1, kldl_1, klda_1, kldz_1, kst1_1n, kst2_1n, kst1_1i, kst2_1i, kst1_1r, kst2_1r, kst1_1z, kst2_1z, kst1_1l, kst2_1l, kcat_n, kcat_i, kcat_r, kcat_z, kcat_l, zl_2, zl_4, zl_8, zl_16, zl_32, zl_256, zl_65536, jJ6_numberOfTrailingZeros_0f7a4_0, bJ6_numberOfTrailingZeros_0f7a4_0, jJ6_numberOfTrailingZeros_0f7a4_17, bJ6_numberOfTrailingZeros_0f7a4_17, jJ6_numberOfTrailingZeros_0f7a4_34, bJ6_numberOfTrailingZeros_0f7a4_34, jJ6_numberOfTrailingZeros_0f7a4_49, bJ6_numberOfTrailingZeros_0f7a4_49, jJ6_numberOfTrailingZeros_0f7a4_62, bJ6_numberOfTrailingZeros_0f7a4_62, jJ6_numberOfTrailingZeros_0f7a4_74, bJ6_numberOfTrailingZeros_0f7a4_74]
  refine br_f (by decide) ⟨by simp, ?_⟩
  rw [show ((nI 0 ^^^ -1) &&& (nI 0 - 1)) &&& nI 32 = nI 32 by decide]
  exact H
theorem c_ntz {t q : Nat} (ht : t < 31) (hm : 2 ^ (t + 1) * q + 2 ^ t < 2 ^ 31) (H : Q (.inl (some (.int (nI t)))) h) : kCalls r yJ6_numberOfTrailingZeros_0f7a4 [.int (nI (2 ^ (t + 1) * q + 2 ^ t))] h Q := by
  have hp := Nat.two_pow_pos t
  have key : (nI (2 ^ (t + 1) * q + 2 ^ t) ^^^ -1) &&& (nI (2 ^ (t + 1) * q + 2 ^ t) - 1) = nI (2 ^ t - 1) := by
    rw [nI_subm (by omega), Int32.and_comm, z_andn, low_ndf]
  have hpt : 2 ^ t ≤ 2 ^ 30 := Nat.pow_le_pow_right (by omega) (by omega)
  refine sJ6_numberOfTrailingZeros_0f7a4 _ ?_
  refine eJ6_numberOfTrailingZeros_0f7a4_0 ?_
  simp only [ks_nop, ks_iload_0, ks_iload_1, ks_istore_0, ks_istore_1, ks_iconst, ks_bipush, ks_sipush, ks_ldc_w, ks_iinc, ks_iadd, ks_isub, ks_iand, ks_ixor, ks_iushr, ks_if_gt, ks_icmp_le, ks_iret0, kldi_0, kldl_0, klda_0, kldz_0, kst1_0, kst2_0, kldi_1, kldl_1, klda_1, kldz_1, kst1_1n, kst2_1n, kst1_1i, kst2_1i, kst1_1r, kst2_1r, kst1_1z, kst2_1z, kst1_1l, kst2_1l, kcat_n, kcat_i, kcat_r, kcat_z, kcat_l, zl_2, zl_4, zl_8, zl_16, zl_32, zl_256, zl_65536, jJ6_numberOfTrailingZeros_0f7a4_0, bJ6_numberOfTrailingZeros_0f7a4_0, jJ6_numberOfTrailingZeros_0f7a4_17, bJ6_numberOfTrailingZeros_0f7a4_17, jJ6_numberOfTrailingZeros_0f7a4_34, bJ6_numberOfTrailingZeros_0f7a4_34, jJ6_numberOfTrailingZeros_0f7a4_49, bJ6_numberOfTrailingZeros_0f7a4_49, jJ6_numberOfTrailingZeros_0f7a4_62, bJ6_numberOfTrailingZeros_0f7a4_62, jJ6_numberOfTrailingZeros_0f7a4_74, bJ6_numberOfTrailingZeros_0f7a4_74, key]
  by_cases h0 : t = 0
  · subst h0
    refine br_f (by decide) ⟨by simp, ?_⟩
    exact H
  have hp2 : 2 ≤ 2 ^ t := by
    have : 2 ^ 1 ≤ 2 ^ t := Nat.pow_le_pow_right (by omega) (by omega)
    omega
  refine br_t (by rw [← nI_0]; exact nI_lt (by omega) (by omega)) ?_
  -- x = 2^s - 1, s + n = t + 1
  have pw : ∀ a b, a < b → 2 ^ a < 2 ^ b := fun a b hab => Nat.pow_lt_pow_right (by omega) hab
  have dv : ∀ s k, k ≤ s → (2 ^ s - 1) / 2 ^ k = 2 ^ (s - k) - 1 := by
    intro s k hks
    have e : 2 ^ s = 2 ^ k * 2 ^ (s - k) := by rw [← Nat.pow_add]; congr 1; omega
    have p1 := Nat.two_pow_pos k
    have p2 := Nat.two_pow_pos (s - k)
    apply Nat.div_eq_of_lt_le
    · rw [e, Nat.sub_mul, Nat.mul_comm (2 ^ (s - k))]; omega
    · rw [show 2 ^ (s - k) - 1 + 1 = 2 ^ (s - k) by omega, Nat.mul_comm, ← e]
      have := Nat.two_pow_pos s
      omega
  have L74 : ∀ s n, 1 ≤ s → s < 3 → s + n = t + 1 → kRun r mJ6_numberOfTrailingZeros_0f7a4 74 [some (.int (nI (2 ^ s - 1))), some (.int (nI n))] [] h Q := by
    intro s n hs1 hs2 he
    refine eJ6_numberOfTrailingZeros_0f7a4_74 ?_
    simp only [ks_nop, ks_iload_0, ks_iload_1, ks_istore_0, ks_istore_1, ks_iconst, ks_bipush, ks_sipush, ks_ldc_w, ks_iinc, ks_iadd, ks_isub, ks_iand, ks_ixor, ks_iushr, ks_if_gt, ks_icmp_le, ks_iret0, kldi_0, kldl_0, klda_0, kldz_0, kst1_0, kst2_0, kldi_1, kldl_1, klda_1, kldz_1, kst1_1n, kst2_1n, kst1_1i, kst2_1i, kst1_1r, kst2_1r, kst1_1z, kst2_1z, kst1_1l, kst2_1l, kcat_n, kcat_i, kcat_r, kcat_z, kcat_l, zl_2, zl_4, zl_8, zl_16, zl_32, zl_256, zl_65536, jJ6_numberOfTrailingZeros_0f7a4_0, bJ6_numberOfTrailingZeros_0f7a4_0, jJ6_numberOfTrailingZeros_0f7a4_17, bJ6_numberOfTrailingZeros_0f7a4_17, jJ6_numberOfTrailingZeros_0f7a4_34, bJ6_numberOfTrailingZeros_0f7a4_34, jJ6_numberOfTrailingZeros_0f7a4_49, bJ6_numberOfTrailingZeros_0f7a4_49, jJ6_numberOfTrailingZeros_0f7a4_62, bJ6_numberOfTrailingZeros_0f7a4_62, jJ6_numberOfTrailingZeros_0f7a4_74, bJ6_numberOfTrailingZeros_0f7a4_74]
    refine ⟨by simp, ?_⟩
    rw [show (1 : Int32) = nI 1 from rfl, z_ush (by rcases (show s = 1 ∨ s = 2 by omega) with rfl | rfl <;> decide) (by omega), nI_add]
    rw [show n + (2 ^ s - 1) / 2 ^ 1 = t by rcases (show s = 1 ∨ s = 2 by omega) with rfl | rfl <;> simp <;> omega]
    exact H
  have small : ∀ s, s < 31 → 2 ^ s - 1 < 2 ^ 31 := fun s hs => by have := pw s 31 hs; omega
  have step : ∀ (k c : Nat), 1 ≤ k → c = 2 ^ k → ∀ s, 1 ≤ s → (2 ^ s - 1 ≤ c ↔ s ≤ k) := by
    intro k c hk hc s hs
    constructor
    · intro h1
      rcases Nat.lt_or_ge k s with q | q
      · have h2 : 2 ^ (k + 1) ≤ 2 ^ s := Nat.pow_le_pow_right (by omega) q
        rw [Nat.pow_succ] at h2
        have h3 : 2 ^ 1 ≤ 2 ^ k := Nat.pow_le_pow_right (by omega) hk
        omega
      · exact q
    · intro h1
      have := Nat.pow_le_pow_right (n := 2) (by omega) h1
      omega
  have L62 : ∀ s n, 1 ≤ s → s ≤ 4 → s + n = t + 1 → kRun r mJ6_numberOfTrailingZeros_0f7a4 62 [some (.int (nI (2 ^ s - 1))), some (.int (nI n))] [] h Q := by
    intro s n hs1 hs2 he
    refine eJ6_numberOfTrailingZeros_0f7a4_62 ?_
    simp only [ks_nop, ks_iload_0, ks_iload_1, ks_istore_0, ks_istore_1, ks_iconst, ks_bipush, ks_sipush, ks_ldc_w, ks_iinc, ks_iadd, ks_isub, ks_iand, ks_ixor, ks_iushr, ks_if_gt, ks_icmp_le, ks_iret0, kldi_0, kldl_0, klda_0, kldz_0, kst1_0, kst2_0, kldi_1, kldl_1, klda_1, kldz_1, kst1_1n, kst2_1n, kst1_1i, kst2_1i, kst1_1r, kst2_1r, kst1_1z, kst2_1z, kst1_1l, kst2_1l, kcat_n, kcat_i, kcat_r, kcat_z, kcat_l, zl_2, zl_4, zl_8, zl_16, zl_32, zl_256, zl_65536, jJ6_numberOfTrailingZeros_0f7a4_0, bJ6_numberOfTrailingZeros_0f7a4_0, jJ6_numberOfTrailingZeros_0f7a4_17, bJ6_numberOfTrailingZeros_0f7a4_17, jJ6_numberOfTrailingZeros_0f7a4_34, bJ6_numberOfTrailingZeros_0f7a4_34, jJ6_numberOfTrailingZeros_0f7a4_49, bJ6_numberOfTrailingZeros_0f7a4_49, jJ6_numberOfTrailingZeros_0f7a4_62, bJ6_numberOfTrailingZeros_0f7a4_62, jJ6_numberOfTrailingZeros_0f7a4_74, bJ6_numberOfTrailingZeros_0f7a4_74]
    have hsm := small s (by omega)
    by_cases hc : s ≤ 2
    · exact br_t (nI_le ((step 2 4 (by omega) rfl s hs1).mpr hc) (by omega)) (L74 s n hs1 (by omega) he)
    · have : ¬ 2 ^ s - 1 ≤ 4 := fun q => hc ((step 2 4 (by omega) rfl s hs1).mp q)
      refine br_f (nI_ge (by omega) hsm) ?_
      rw [z_ush (by omega) (by omega), nI_add, dv s 2 (by omega)]
      exact L74 _ _ (by omega) (by omega) (by omega)
  have L49 : ∀ s n, 1 ≤ s → s ≤ 8 → s + n = t + 1 → kRun r mJ6_numberOfTrailingZeros_0f7a4 49 [some (.int (nI (2 ^ s - 1))), some (.int (nI n))] [] h Q := by
    intro s n hs1 hs2 he
    refine eJ6_numberOfTrailingZeros_0f7a4_49 ?_
    simp only [ks_nop, ks_iload_0, ks_iload_1, ks_istore_0, ks_istore_1, ks_iconst, ks_bipush, ks_sipush, ks_ldc_w, ks_iinc, ks_iadd, ks_isub, ks_iand, ks_ixor, ks_iushr, ks_if_gt, ks_icmp_le, ks_iret0, kldi_0, kldl_0, klda_0, kldz_0, kst1_0, kst2_0, kldi_1, kldl_1, klda_1, kldz_1, kst1_1n, kst2_1n, kst1_1i, kst2_1i, kst1_1r, kst2_1r, kst1_1z, kst2_1z, kst1_1l, kst2_1l, kcat_n, kcat_i, kcat_r, kcat_z, kcat_l, zl_2, zl_4, zl_8, zl_16, zl_32, zl_256, zl_65536, jJ6_numberOfTrailingZeros_0f7a4_0, bJ6_numberOfTrailingZeros_0f7a4_0, jJ6_numberOfTrailingZeros_0f7a4_17, bJ6_numberOfTrailingZeros_0f7a4_17, jJ6_numberOfTrailingZeros_0f7a4_34, bJ6_numberOfTrailingZeros_0f7a4_34, jJ6_numberOfTrailingZeros_0f7a4_49, bJ6_numberOfTrailingZeros_0f7a4_49, jJ6_numberOfTrailingZeros_0f7a4_62, bJ6_numberOfTrailingZeros_0f7a4_62, jJ6_numberOfTrailingZeros_0f7a4_74, bJ6_numberOfTrailingZeros_0f7a4_74]
    have hsm := small s (by omega)
    by_cases hc : s ≤ 4
    · exact br_t (nI_le ((step 4 16 (by omega) rfl s hs1).mpr hc) (by omega)) (L62 s n hs1 (by omega) he)
    · have : ¬ 2 ^ s - 1 ≤ 16 := fun q => hc ((step 4 16 (by omega) rfl s hs1).mp q)
      refine br_f (nI_ge (by omega) hsm) ?_
      rw [z_ush (by omega) (by omega), nI_add, dv s 4 (by omega)]
      exact L62 _ _ (by omega) (by omega) (by omega)
  have L34 : ∀ s n, 1 ≤ s → s ≤ 16 → s + n = t + 1 → kRun r mJ6_numberOfTrailingZeros_0f7a4 34 [some (.int (nI (2 ^ s - 1))), some (.int (nI n))] [] h Q := by
    intro s n hs1 hs2 he
    refine eJ6_numberOfTrailingZeros_0f7a4_34 ?_
    simp only [ks_nop, ks_iload_0, ks_iload_1, ks_istore_0, ks_istore_1, ks_iconst, ks_bipush, ks_sipush, ks_ldc_w, ks_iinc, ks_iadd, ks_isub, ks_iand, ks_ixor, ks_iushr, ks_if_gt, ks_icmp_le, ks_iret0, kldi_0, kldl_0, klda_0, kldz_0, kst1_0, kst2_0, kldi_1, kldl_1, klda_1, kldz_1, kst1_1n, kst2_1n, kst1_1i, kst2_1i, kst1_1r, kst2_1r, kst1_1z, kst2_1z, kst1_1l, kst2_1l, kcat_n, kcat_i, kcat_r, kcat_z, kcat_l, zl_2, zl_4, zl_8, zl_16, zl_32, zl_256, zl_65536, jJ6_numberOfTrailingZeros_0f7a4_0, bJ6_numberOfTrailingZeros_0f7a4_0, jJ6_numberOfTrailingZeros_0f7a4_17, bJ6_numberOfTrailingZeros_0f7a4_17, jJ6_numberOfTrailingZeros_0f7a4_34, bJ6_numberOfTrailingZeros_0f7a4_34, jJ6_numberOfTrailingZeros_0f7a4_49, bJ6_numberOfTrailingZeros_0f7a4_49, jJ6_numberOfTrailingZeros_0f7a4_62, bJ6_numberOfTrailingZeros_0f7a4_62, jJ6_numberOfTrailingZeros_0f7a4_74, bJ6_numberOfTrailingZeros_0f7a4_74]
    have hsm := small s (by omega)
    by_cases hc : s ≤ 8
    · exact br_t (nI_le ((step 8 256 (by omega) rfl s hs1).mpr hc) (by omega)) (L49 s n hs1 (by omega) he)
    · have : ¬ 2 ^ s - 1 ≤ 256 := fun q => hc ((step 8 256 (by omega) rfl s hs1).mp q)
      refine br_f (nI_ge (by omega) hsm) ?_
      rw [z_ush (by omega) (by omega), nI_add, dv s 8 (by omega)]
      exact L49 _ _ (by omega) (by omega) (by omega)
  have hsm := small t (by omega)
  by_cases hc : t ≤ 16
  · exact br_t (nI_le ((step 16 65536 (by omega) rfl t (by omega)).mpr hc) (by omega)) (L34 t 1 (by omega) hc (by omega))
  · have : ¬ 2 ^ t - 1 ≤ 65536 := fun q => hc ((step 16 65536 (by omega) rfl t (by omega)).mp q)
    refine br_f (nI_ge (by omega) hsm) ?_
    rw [z_ush (by omega) (by omega), show (1 : Int32) = nI 1 from rfl, nI_add, dv t 16 (by omega)]
    exact L34 _ _ (by omega) (by omega) (by omega)
theorem c_ntzf {m : Nat} (hm : m < 2 ^ 31) (H : Q (.inl (some (.int (nI (bf m 0))))) h) : kCalls r yJ6_numberOfTrailingZeros_0f7a4 [.int (nI m)] h Q := by
  have hbit : ∀ i, m.testBit i = (decide (0 ≤ i) && m.testBit i) := by
    intro i
    simp
  by_cases h0 : m = 0
  · subst h0
    refine c_ntz0 ?_
    have : bf 0 0 = 32 := first_none (fun j _ => by rw [← hbit j, Nat.zero_testBit])
    rw [this] at H
    exact H
  · obtain ⟨t, q, e⟩ := low_bit (Nat.pos_of_ne_zero h0)
    have hb := low_bits (t := t) (q := q)
    rw [← e] at hb
    have ht : t < 31 := by
      rcases Nat.lt_or_ge t 31 with q | q
      · exact q
      · have := nb_ge (a := m) (k := 31) (by omega) q
        rw [hb.1] at this
        cases this
    have : bf m 0 = t := first_eq (by omega) (by rw [← hbit]; exact hb.1) (fun j hj => by rw [← hbit]; exact hb.2 j hj)
    rw [this] at H
    rw [e]
    exact c_ntz ht (by omega) H
end ST

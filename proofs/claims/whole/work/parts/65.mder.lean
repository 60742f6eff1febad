/-! a body over a row of signs is a match -/
section TH
variable {B : GB} {nn : Nat}
theorem Sy_ne (hB : bok B nn) {s : Nat} {u : List Nat} (h : Sy (Der B) s u) : u ≠ [] := by
  unfold Sy at h
  split at h
  · rw [h]; simp
  · exact Der_ne (bok_gok hB) h
theorem cmt_rng {F : Nat → Nat → Nat} {u : List Nat} {v p j q : Nat} (hp : p < j) (h : (cmt F u v p j).testBit q = true) : p < q ∧ q ≤ j := by
  unfold cmt at h
  split at h
  · split at h
    · rw [nb_pow, decide_eq_true_iff] at h; omega
    · rw [Nat.zero_testBit] at h; cases h
  · rw [orf_bit] at h
    obtain ⟨t, ht, h⟩ := h
    unfold cmI at h
    split at h
    · rw [nb_pow, decide_eq_true_iff] at h; omega
    · rw [Nat.zero_testBit] at h; cases h
theorem cmt_bit (hB : bok B nn) {F : Nat → Nat → Nat} {u : List Nat} {v p j q : Nat} (hj : j ≤ u.length) (h1 : p < q) (h2 : q ≤ j) (hF : F p q = NB B (sb u p q)) : (cmt F u v p j).testBit q = true ↔ Sy (Der B) v (sb u p q) := by
  unfold cmt
  by_cases hv : v < 4
  · rw [if_pos hv, Sy_sign hv]
    constructor
    · intro h
      split at h
      · rename_i e
        rw [nb_pow, decide_eq_true_iff] at h
        subst h
        rw [sb_one (by omega), e]
      · rw [Nat.zero_testBit] at h; cases h
    · intro h
      have hq : q = p + 1 := by
        have := congrArg List.length h
        rw [sb_len _ (by omega)] at this
        simp at this; omega
      subst hq
      rw [sb_one (by omega)] at h
      have : u.getD p 0 = v := by simpa using h
      rw [if_pos this, nb_pow]; simp
  · rw [if_neg hv, orf_bit, Sy_name (by omega), ← NB_bit hB, ← hF]
    constructor
    · rintro ⟨t, ht, h⟩
      unfold cmI at h
      split at h
      · rename_i e
        rw [nb_pow, decide_eq_true_iff] at h
        rw [h] at e; exact e
      · rw [Nat.zero_testBit] at h; cases h
    · intro h
      refine ⟨q - p - 1, by omega, ?_⟩
      unfold cmI
      rw [show p + 1 + (q - p - 1) = q by omega, if_pos h, nb_pow]; simp
theorem rbS_bit (hB : bok B nn) {F : Nat → Nat → Nat} {u : List Nat} {b i j : Nat} (hij : i < j) (hj : j ≤ u.length) (hF : ∀ p q, i ≤ p → p < q → q ≤ j → (p = i → q ≠ j) → F p q = NB B (sb u p q)) :
    ∀ k, k + 1 ≤ (bs B b).length → ∀ q, (q < j ∨ 1 ≤ k) → ((rbS F u i j (bsy B b) (k + 1)).testBit q = true ↔ i < q ∧ q ≤ j ∧ Mt (Der B) ((bs B b).take (k + 1)) (sb u i q)) := by
  intro k
  induction k with
  | zero =>
    intro hk q hq
    have hq : q < j := by omega
    rw [rbS, orf_bit, take_1 (by omega), Mt_one]
    constructor
    · rintro ⟨t, ht, h⟩
      unfold rbI at h
      split at h
      · rename_i e
        rw [rbS, nb_pow, decide_eq_true_iff] at e
        have : t = 0 := by omega
        subst this
        rw [Nat.add_zero] at h
        have hr := cmt_rng hij h
        exact ⟨hr.1, hr.2, (cmt_bit hB hj hr.1 hr.2 (hF i q (by omega) hr.1 hr.2 (by omega))).mp h⟩
      · rw [Nat.zero_testBit] at h; cases h
    · rintro ⟨h1, h2, h3⟩
      refine ⟨0, by omega, ?_⟩
      unfold rbI
      rw [rbS, Nat.add_zero, if_pos (by rw [nb_pow]; simp)]
      exact (cmt_bit hB hj h1 h2 (hF i q (by omega) h1 h2 (by omega))).mpr h3
  | succ k ih =>
    intro hk q _
    have ih := ih (by omega)
    rw [rbS, orf_bit, take_s (by omega), Mt_snoc]
    constructor
    · rintro ⟨t, ht, h⟩
      unfold rbI at h
      split at h
      · rename_i e
        obtain ⟨e1, e2, e3⟩ := (ih (i + t) (Or.inl (by omega))).mp e
        have hr := cmt_rng (by omega) h
        have hs := (cmt_bit hB hj hr.1 hr.2 (hF (i + t) q (by omega) hr.1 hr.2 (by omega))).mp h
        exact ⟨by omega, hr.2, sb u i (i + t), sb u (i + t) q, (sb_app (by omega) (by omega) (by omega)).symm, e3, hs⟩
      · rw [Nat.zero_testBit] at h; cases h
    · rintro ⟨h1, h2, v, z, e, hv, hz⟩
      obtain ⟨e1, e2, e3⟩ := sb_split (by omega) (by omega) e
      have z0 : z.length ≠ 0 := fun q0 => Sy_ne hB hz (List.length_eq_zero_iff.mp q0)
      have v0 := Mt_len hB hv
      rw [List.length_take] at v0
      refine ⟨v.length, by omega, ?_⟩
      unfold rbI
      rw [e1] at hv
      rw [e2] at hz
      rw [if_pos ((ih (i + v.length) (Or.inl (by omega))).mpr ⟨by omega, by omega, hv⟩)]
      exact (cmt_bit hB hj (by omega) h2 (hF (i + v.length) q (by omega) (by omega) h2 (by omega))).mpr hz
theorem rbS_full (hB : bok B nn) {F : Nat → Nat → Nat} {u : List Nat} {b i j : Nat} (hij : i < j) (hj : j ≤ u.length) (hF : ∀ p q, i ≤ p → p < q → q ≤ j → (p = i → q ≠ j) → F p q = NB B (sb u p q)) (h2 : 2 ≤ (bs B b).length) :
    (rbS F u i j (bsy B b) (bs B b).length).testBit j = true ↔ Mt (Der B) (bs B b) (sb u i j) := by
  have := rbS_bit (b := b) hB hij hj hF ((bs B b).length - 1) (by omega) j (Or.inr (by omega))
  rw [show (bs B b).length - 1 + 1 = (bs B b).length by omega, List.take_length] at this
  rw [this]
  exact ⟨fun q => q.2.2, fun q => ⟨hij, Nat.le_refl _, q⟩⟩
end TH

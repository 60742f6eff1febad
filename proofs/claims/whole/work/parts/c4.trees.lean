/-! how many trees a word has, up to a bound -/
noncomputable def tcF (B : GB) (P : List (List Nat)) (C : CL) (w : List Nat) : Nat → Nat → Nat → Nat → Nat
  | 0, _, _, _ => 0
  | n + 1, x, i, j => if j = i + 1 then ((hs B P C (sb w i j)).testBit x).toNat else min 1000000000 (sumf (fun t => sumf (fun y => sumf (fun z => if R2 B P C x y z = true then tcF B P C w n y i (i + 1 + t) * tcF B P C w n z (i + 1 + t) j else 0) 12) 12) (j - i - 1))
noncomputable def tc (B : GB) (P : List (List Nat)) (C : CL) (w : List Nat) (x i j : Nat) : Nat := tcF B P C w (j - i) x i j
noncomputable def tgz (B : GB) (P : List (List Nat)) (C : CL) (w : List Nat) (x i j k y z : Nat) : Nat := if R2 B P C x y z = true then tc B P C w y i k * tc B P C w z k j else 0
noncomputable def tgy (B : GB) (P : List (List Nat)) (C : CL) (w : List Nat) (x i j k y : Nat) : Nat := sumf (tgz B P C w x i j k y) 12
noncomputable def tgk (B : GB) (P : List (List Nat)) (C : CL) (w : List Nat) (x i j t : Nat) : Nat := sumf (tgy B P C w x i j (i + 1 + t)) 12
theorem sumf_skip {f : Nat → Nat} {a : Nat} : ∀ d, (∀ i, a ≤ i → i < a + d → f i = 0) → sumf f (a + d) = sumf f a
  | 0, _ => rfl
  | d + 1, h => by
    show sumf f (a + d) + f (a + d) = _
    rw [sumf_skip d (fun i h1 h2 => h i h1 (by omega)), h (a + d) (by omega) (by omega), Nat.add_zero]
theorem sumf_sk {f : Nat → Nat} {a b : Nat} (hab : a ≤ b) (h : ∀ i, a ≤ i → i < b → f i = 0) : sumf f b = sumf f a := by
  have := sumf_skip (f := f) (a := a) (b - a) (fun i h1 h2 => h i h1 (by omega))
  rw [show a + (b - a) = b by omega] at this
  exact this
theorem sumf_pre {f : Nat → Nat} {a : Nat} : ∀ d, sumf f a ≤ sumf f (a + d)
  | 0 => Nat.le_refl _
  | d + 1 => Nat.le_trans (sumf_pre d) (Nat.le_add_right _ _)
theorem sumf_le2 {f : Nat → Nat} {a b : Nat} (h : a ≤ b) : sumf f a ≤ sumf f b := by
  have := sumf_pre (f := f) (a := a) (b - a)
  rw [show a + (b - a) = b by omega] at this
  exact this
theorem sumf_z {f : Nat → Nat} (k : Nat) (h : ∀ i, i < k → f i = 0) : sumf f k = 0 := by
  have := sumf_skip (f := f) (a := 0) k (fun i _ h2 => h i (by omega))
  rw [Nat.zero_add] at this
  exact this
theorem lN_mulr (a b : Nat) : lN a * lN b = lN (a * b) := by
  apply Int64.toBitVec_inj.1
  rw [Int64.toBitVec_mul, lN_bv, lN_bv, lN_bv, ← BitVec.ofNat_mul]
theorem lN_addr (a b : Nat) : lN a + lN b = lN (a + b) := by
  apply Int64.toBitVec_inj.1
  rw [Int64.toBitVec_add, lN_bv, lN_bv, lN_bv, ← BitVec.ofNat_add]
section TH
variable {B : GB} {P : List (List Nat)} {C : CL} {w : List Nat}
theorem tcF_le : ∀ n x i j, tcF B P C w n x i j ≤ 1000000000
  | 0, _, _, _ => by rw [tcF]; omega
  | n + 1, x, i, j => by
    rw [tcF]
    split
    · cases (hs B P C (sb w i j)).testBit x <;> simp
    · exact Nat.min_le_left _ _
theorem tcF_fu : ∀ n m x i j, j - i ≤ n → j - i ≤ m → tcF B P C w n x i j = tcF B P C w m x i j := by
  have z : ∀ m x i j, j - i = 0 → tcF B P C w m x i j = 0 := by
    intro m x i j h
    cases m with
    | zero => rfl
    | succ m =>
      rw [tcF, if_neg (by omega), show j - i - 1 = 0 by omega]
      rfl
  intro n
  induction n with
  | zero =>
    intro m x i j h1 h2
    rw [z 0 x i j (by omega), z m x i j (by omega)]
  | succ n ih =>
    intro m x i j h1 h2
    cases m with
    | zero => rw [z 0 x i j (by omega), z (n + 1) x i j (by omega)]
    | succ m =>
      rw [tcF, tcF]
      by_cases e : j = i + 1
      · rw [if_pos e, if_pos e]
      · rw [if_neg e, if_neg e]
        congr 1
        refine sumf_congr _ (fun t ht => sumf_congr _ (fun y _ => sumf_congr _ (fun z _ => ?_)))
        rw [ih m y i (i + 1 + t) (by omega) (by omega), ih m z (i + 1 + t) j (by omega) (by omega)]
theorem tc_le (x i j : Nat) : tc B P C w x i j ≤ 1000000000 := tcF_le _ _ _ _
theorem tc_1 (x i : Nat) : tc B P C w x i (i + 1) = ((hs B P C (sb w i (i + 1))).testBit x).toNat := by
  unfold tc
  rw [show i + 1 - i = 0 + 1 by omega, tcF, if_pos rfl]
theorem tc_2 {x i j : Nat} (h : i + 2 ≤ j) : tc B P C w x i j = min 1000000000 (sumf (tgk B P C w x i j) (j - i - 1)) := by
  unfold tc
  rw [show j - i = (j - i - 1) + 1 by omega, tcF, if_neg (by omega), Nat.add_sub_cancel]
  congr 1
  refine sumf_congr _ (fun t ht => ?_)
  unfold tgk tgy tgz tc
  refine sumf_congr _ (fun y _ => sumf_congr _ (fun z _ => ?_))
  rw [tcF_fu (j - i - 1) (i + 1 + t - i) y i (i + 1 + t) (by omega) (by omega), tcF_fu (j - i - 1) (j - (i + 1 + t)) z (i + 1 + t) j (by omega) (by omega)]
theorem tc_0 (hC : C.length ≤ 12) : ∀ n x i j, j - i ≤ n → i < j → j ≤ w.length → (hs B P C (sb w i j)).testBit x = false → tc B P C w x i j = 0 := by
  intro n
  induction n with
  | zero => intro x i j h1 h2; omega
  | succ n ih =>
    intro x i j h1 h2 h3 h4
    by_cases e : j = i + 1
    · subst e; rw [tc_1, h4]; rfl
    · rw [tc_2 (by omega)]
      have : sumf (tgk B P C w x i j) (j - i - 1) = 0 := by
        refine sumf_z _ (fun t ht => ?_)
        unfold tgk
        refine sumf_z _ (fun y _ => ?_)
        unfold tgy
        refine sumf_z _ (fun z _ => ?_)
        unfold tgz
        by_cases hr : R2 B P C x y z = true
        · rw [if_pos hr]
          cases hy : (hs B P C (sb w i (i + 1 + t))).testBit y with
          | false => rw [ih y i (i + 1 + t) (by omega) (by omega) (by omega) hy, Nat.zero_mul]
          | true =>
            cases hz : (hs B P C (sb w (i + 1 + t) j)).testBit z with
            | false => rw [ih z (i + 1 + t) j (by omega) (by omega) (by omega) hz, Nat.mul_zero]
            | true =>
              exfalso
              have hj := hs_sb (B := B) (P := P) (C := C) (w := w) (i := i) (j := j) (by omega) h3
              rw [hj] at h4
              have : (orf (fun t => jn B P C (hs B P C (sb w i (i + 1 + t))) (hs B P C (sb w (i + 1 + t) j))) (j - i - 1)).testBit x = true := (orf_bit _ _ _).mpr ⟨t, ht, (jn_bit hC).mpr ⟨y, z, hy, hz, hr⟩⟩
              rw [this] at h4; cases h4
        · rw [if_neg hr]
      rw [this]; rfl
end TH

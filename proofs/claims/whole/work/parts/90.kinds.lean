/-! kinds: how short, reached, alike -/
section TH
variable {B : GB} {P : List (List Nat)} {C : CL}
noncomputable def sgA (B : GB) (P : List (List Nat)) (C : CL) : Nat := orf (sgX B P C) 4
theorem sgA_lt (hC : C.length ≤ 12) : sgA B P C < 2 ^ 12 := orf_lt _ (fun s _ => sgX_lt hC s)
theorem sgA_nc {x : Nat} (h : (sgA B P C).testBit x = true) : x < C.length := by
  obtain ⟨s, _, hs⟩ := (orf_bit _ _ _).mp h
  rw [sgX_bit] at hs
  simp only [Bool.and_eq_true, decide_eq_true_iff] at hs
  exact hs.1
def LenC (B : GB) (P : List (List Nat)) (C : CL) (D : Nat → Nat → Prop) : Prop := (∀ x, (sgA B P C).testBit x = true → D x 1) ∧ ∀ x y z a b, R2 B P C x y z = true → D y a → D z b → a + b ≤ 20 → D x (a + b)
def Len (B : GB) (P : List (List Nat)) (C : CL) (x n : Nat) : Prop := ∀ D, LenC B P C D → D x n
theorem Len_1 {x : Nat} (h : (sgA B P C).testBit x = true) : Len B P C x 1 := fun _ hD => hD.1 x h
theorem Len_2 {x y z a b : Nat} (h : R2 B P C x y z = true) (hy : Len B P C y a) (hz : Len B P C z b) (hab : a + b ≤ 20) : Len B P C x (a + b) := fun D hD => hD.2 x y z a b h (hy D hD) (hz D hD) hab
theorem Len_inv {x n : Nat} (h : Len B P C x n) : (n = 1 ∧ (sgA B P C).testBit x = true) ∨ ∃ y z a b, R2 B P C x y z = true ∧ Len B P C y a ∧ Len B P C z b ∧ n = a + b ∧ n ≤ 20 := by
  have := h (fun x n => Len B P C x n ∧ ((n = 1 ∧ (sgA B P C).testBit x = true) ∨ ∃ y z a b, R2 B P C x y z = true ∧ Len B P C y a ∧ Len B P C z b ∧ n = a + b ∧ n ≤ 20)) ⟨fun x hx => ⟨Len_1 hx, Or.inl ⟨rfl, hx⟩⟩, fun x y z a b hr hy hz hab => ⟨Len_2 hr hy.1 hz.1 hab, Or.inr ⟨y, z, a, b, hr, hy.1, hz.1, rfl, hab⟩⟩⟩
  exact this.2
theorem Len_rng {x n : Nat} (h : Len B P C x n) : 1 ≤ n ∧ n ≤ 20 ∧ x < C.length :=
  h (fun x n => 1 ≤ n ∧ n ≤ 20 ∧ x < C.length) ⟨fun x hx => ⟨by omega, by omega, sgA_nc hx⟩, fun x y z a b hr hy hz hab => ⟨by omega, hab, (R2_iff.mp hr).1⟩⟩
noncomputable def lenB (B : GB) (P : List (List Nat)) (C : CL) (x n : Nat) : Bool := @decide (Len B P C x n) (Classical.propDecidable _)
theorem lenB_iff {x n : Nat} : lenB B P C x n = true ↔ Len B P C x n := @decide_eq_true_iff _ (Classical.propDecidable _)
noncomputable def shl (B : GB) (P : List (List Nat)) (C : CL) (x : Nat) : Nat := fa_first (lenB B P C x) 21
theorem shl_le (x : Nat) : shl B P C x ≤ 21 := fa_first_le _ _
theorem shl_yes {x : Nat} (h : shl B P C x < 21) : Len B P C x (shl B P C x) := lenB_iff.mp (fa_first_yes _ _ h)
theorem shl_min {x n : Nat} (h : Len B P C x n) : shl B P C x ≤ n := by
  rcases Nat.lt_or_ge n (shl B P C x) with q | q
  · have := fa_first_no _ _ n q
    rw [lenB_iff.mpr h] at this; cases this
  · exact q
theorem shl_pos (x : Nat) : 1 ≤ shl B P C x := by
  rcases Nat.lt_or_ge (shl B P C x) 21 with q | q
  · exact (Len_rng (shl_yes q)).1
  · omega
theorem shl_nc {x : Nat} (h : shl B P C x < 21) : x < C.length := (Len_rng (shl_yes h)).2.2
noncomputable def mfN (B : GB) (P : List (List Nat)) (C : CL) (n : Nat) : Nat := nms (fun x => decide (shl B P C x = n)) C.length
noncomputable def mdN (B : GB) (P : List (List Nat)) (C : CL) (n : Nat) : Nat := nms (fun x => decide (shl B P C x < n)) C.length
theorem mfN_lt (hC : C.length ≤ 12) (n : Nat) : mfN B P C n < 2 ^ 12 := nms_lt' _ hC
theorem mdN_lt (hC : C.length ≤ 12) (n : Nat) : mdN B P C n < 2 ^ 12 := nms_lt' _ hC
theorem mfN_bit {n x : Nat} (hn : n < 21) : (mfN B P C n).testBit x = true ↔ shl B P C x = n := by
  unfold mfN
  rw [nms_bit, Bool.and_eq_true, decide_eq_true_iff, decide_eq_true_iff]
  exact ⟨fun h => h.2, fun h => ⟨shl_nc (B := B) (P := P) (by omega), h⟩⟩
theorem mdN_bit {n x : Nat} (hn : n ≤ 21) : (mdN B P C n).testBit x = true ↔ shl B P C x < n := by
  unfold mdN
  rw [nms_bit, Bool.and_eq_true, decide_eq_true_iff, decide_eq_true_iff]
  exact ⟨fun h => h.2, fun h => ⟨shl_nc (B := B) (P := P) (by omega), h⟩⟩
theorem mdN_1 : mdN B P C 1 = 0 := by
  apply Nat.eq_of_testBit_eq
  intro i
  rw [Nat.zero_testBit, Bool.eq_false_iff]
  intro h
  have := (mdN_bit (by omega)).mp h
  have := shl_pos (B := B) (P := P) (C := C) i
  omega
/-- what is found of a length: those that have it as their shortest, and none that has none so short -/
def FND (B : GB) (P : List (List Nat)) (C : CL) (n F : Nat) : Prop := (∀ x, F.testBit x = true → shl B P C x ≤ n) ∧ ∀ x, shl B P C x = n → F.testBit x = true
theorem FND_mf {n F : Nat} (hn : n < 21) (h : FND B P C n F) : ndf F (mdN B P C n) = mfN B P C n := by
  apply Nat.eq_of_testBit_eq
  intro x
  rw [ndf_bit]
  apply bool_ext
  rw [Bool.and_eq_true, mfN_bit hn]
  constructor
  · rintro ⟨h1, h2⟩
    have h3 := h.1 x h1
    rcases Nat.lt_or_ge (shl B P C x) n with q | q
    · rw [(mdN_bit (by omega)).mpr q] at h2; cases h2
    · omega
  · intro e
    refine ⟨h.2 x e, ?_⟩
    cases z : (mdN B P C n).testBit x
    · rfl
    · have := (mdN_bit (by omega)).mp z
      omega
theorem FND_md {n F : Nat} (hn : n < 21) (h : FND B P C n F) : mdN B P C n ||| F = mdN B P C (n + 1) := by
  apply Nat.eq_of_testBit_eq
  intro x
  apply bool_ext
  rw [Nat.testBit_or, Bool.or_eq_true, mdN_bit (by omega), mdN_bit (by omega)]
  constructor
  · rintro (q | q)
    · omega
    · have := h.1 x q; omega
  · intro q
    by_cases e : shl B P C x = n
    · exact Or.inr (h.2 x e)
    · exact Or.inl (by omega)
theorem FND_1 : FND B P C 1 (sgA B P C) := by
  refine ⟨fun x h => shl_min (Len_1 h), fun x h => ?_⟩
  have hl := shl_yes (B := B) (P := P) (C := C) (x := x) (by omega)
  rw [h] at hl
  rcases Len_inv hl with ⟨_, q⟩ | ⟨y, z, a, b, _, hy, hz, e, _⟩
  · exact q
  · have := (Len_rng hy).1
    have := (Len_rng hz).1
    omega
noncomputable def fnd2 (B : GB) (P : List (List Nat)) (C : CL) (n : Nat) : Nat := orf (fun t => jn B P C (mfN B P C (t + 1)) (mfN B P C (n - (t + 1)))) (n - 1)
theorem FND_2 (hC : C.length ≤ 12) {n : Nat} (h2 : 2 ≤ n) (hn : n ≤ 20) : FND B P C n (fnd2 B P C n) := by
  refine ⟨fun x h => ?_, fun x h => ?_⟩
  · obtain ⟨t, ht, hj⟩ := (orf_bit _ _ _).mp h
    obtain ⟨y, z, hy, hz, hr⟩ := (jn_bit hC).mp hj
    have e1 := (mfN_bit (by omega)).mp hy
    have e2 := (mfN_bit (by omega)).mp hz
    have l1 := shl_yes (B := B) (P := P) (C := C) (x := y) (by omega)
    have l2 := shl_yes (B := B) (P := P) (C := C) (x := z) (by omega)
    rw [e1] at l1
    rw [e2] at l2
    have := shl_min (Len_2 hr l1 l2 (by omega))
    omega
  · have hl := shl_yes (B := B) (P := P) (C := C) (x := x) (by omega)
    rw [h] at hl
    rcases Len_inv hl with ⟨q, _⟩ | ⟨y, z, a, b, hr, hy, hz, e, hle⟩
    · omega
    · have a1 := (Len_rng hy).1
      have b1 := (Len_rng hz).1
      have sy := shl_min hy
      have sz := shl_min hz
      have ly := shl_yes (B := B) (P := P) (C := C) (x := y) (by omega)
      have lz := shl_yes (B := B) (P := P) (C := C) (x := z) (by omega)
      have := shl_min (Len_2 hr ly lz (by omega))
      have ea : shl B P C y = a := by omega
      have eb : shl B P C z = b := by omega
      refine (orf_bit _ _ _).mpr ⟨a - 1, by omega, (jn_bit hC).mpr ⟨y, z, ?_, ?_, hr⟩⟩
      · exact (mfN_bit (by omega)).mpr (by omega)
      · exact (mfN_bit (by omega)).mpr (by omega)
/-- made -/
noncomputable def maN (B : GB) (P : List (List Nat)) (C : CL) : Nat := mdN B P C 21
theorem maN_bit {x : Nat} : (maN B P C).testBit x = true ↔ shl B P C x < 21 := mdN_bit (Nat.le_refl _)
theorem maN_lt (hC : C.length ≤ 12) : maN B P C < 2 ^ 12 := mdN_lt hC 21
/-- reached -/
def RcC (B : GB) (P : List (List Nat)) (C : CL) (D : Nat → Prop) : Prop := D 0 ∧ ∀ x y z, D x → R2 B P C x y z = true → (maN B P C).testBit y = true → (maN B P C).testBit z = true → D y ∧ D z
def Rch (B : GB) (P : List (List Nat)) (C : CL) (x : Nat) : Prop := ∀ D, RcC B P C D → D x
theorem Rch_0 : Rch B P C 0 := fun _ h => h.1
theorem Rch_s {x y z : Nat} (hx : Rch B P C x) (hr : R2 B P C x y z = true) (hy : (maN B P C).testBit y = true) (hz : (maN B P C).testBit z = true) : Rch B P C y ∧ Rch B P C z := ⟨fun D hD => (hD.2 x y z (hx D hD) hr hy hz).1, fun D hD => (hD.2 x y z (hx D hD) hr hy hz).2⟩
noncomputable def rcN (B : GB) (P : List (List Nat)) (C : CL) : Nat := msk (Rch B P C) C.length
theorem Rch_nc (h1 : 1 ≤ C.length) {x : Nat} (h : Rch B P C x) : x < C.length := by
  refine h (fun x => x < C.length) ⟨by omega, fun x y z _ hr _ _ => ⟨(R2_iff.mp hr).2.1, (R2_iff.mp hr).2.2.1⟩⟩
theorem rcN_bit (h1 : 1 ≤ C.length) {x : Nat} : (rcN B P C).testBit x = true ↔ Rch B P C x := by
  unfold rcN
  rw [msk_bit]
  exact ⟨fun h => h.2, fun h => ⟨Rch_nc h1 h, h⟩⟩
theorem rcN_lt (hC : C.length ≤ 12) : rcN B P C < 2 ^ 12 := Nat.lt_of_lt_of_le (msk_lt _ _) (Nat.pow_le_pow_right (by omega) hC)
/-- a set that is sound, has 0 and is closed -/
theorem rc_closed (h1 : 1 ≤ C.length) {R : Nat} (s : sbs R (rcN B P C)) (h0 : R.testBit 0 = true) (hc : ∀ x y z, R.testBit x = true → R2 B P C x y z = true → (maN B P C).testBit y = true → (maN B P C).testBit z = true → R.testBit y = true ∧ R.testBit z = true) : R = rcN B P C := by
  refine sbs_as s (fun x hx => ?_)
  exact (rcN_bit h1).mp hx (fun x => R.testBit x = true) ⟨h0, hc⟩
/-- alike -/
noncomputable def alk (B : GB) (P : List (List Nat)) (C : CL) (o x : Nat) : Bool := @decide (colN B P C o = colN B P C x ∧ ∀ p, p < P.length → prN B P C o p = prN B P C x p) (Classical.propDecidable _)
theorem alk_iff {o x : Nat} : alk B P C o x = true ↔ colN B P C o = colN B P C x ∧ ∀ p, p < P.length → prN B P C o p = prN B P C x p := @decide_eq_true_iff _ (Classical.propDecidable _)
theorem alk_rf (x : Nat) : alk B P C x x = true := alk_iff.mpr ⟨rfl, fun _ _ => rfl⟩
noncomputable def lkN (B : GB) (P : List (List Nat)) (C : CL) (x : Nat) : Nat := fa_first (fun o => alk B P C o x) (x + 1)
theorem lkN_yes (x : Nat) : lkN B P C x ≤ x ∧ alk B P C (lkN B P C x) x = true := by
  have h1 : lkN B P C x < x + 1 := by
    rcases Nat.lt_or_ge (lkN B P C x) (x + 1) with q | q
    · exact q
    · have := fa_first_no (fun o => alk B P C o x) (x + 1) x (by unfold lkN at q; omega)
      rw [alk_rf] at this; cases this
  exact ⟨by omega, fa_first_yes (fun o => alk B P C o x) (x + 1) h1⟩
theorem lkN_no {x o : Nat} (h : o < lkN B P C x) : alk B P C o x = false := fa_first_no (fun o => alk B P C o x) (x + 1) o h
noncomputable def owN (B : GB) (P : List (List Nat)) (C : CL) : Nat := nms (fun x => decide (lkN B P C x = x)) C.length
theorem owN_lt (hC : C.length ≤ 12) : owN B P C < 2 ^ 12 := nms_lt' _ hC
noncomputable def laN (B : GB) (P : List (List Nat)) (C : CL) : Nat := maN B P C &&& rcN B P C &&& owN B P C
theorem laN_lt (hC : C.length ≤ 12) : laN B P C < 2 ^ 12 := nand_lt (nand_lt (maN_lt hC))
theorem laN_nc {x : Nat} (h : (laN B P C).testBit x = true) : x < C.length := by
  unfold laN at h
  rw [Nat.testBit_and, Nat.testBit_and, Bool.and_eq_true, Bool.and_eq_true] at h
  exact shl_nc (maN_bit.mp h.1.1)
end TH

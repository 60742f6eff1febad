/-! how many of the first k; sets that grow come to rest -/
def cnt (p : Nat → Bool) : Nat → Nat
  | 0 => 0
  | k + 1 => cnt p k + (p k).toNat
theorem cnt_le (p : Nat → Bool) : ∀ k, cnt p k ≤ k
  | 0 => Nat.le_refl 0
  | k + 1 => by
    have := cnt_le p k
    have : (p k).toNat ≤ 1 := by cases p k <;> simp
    unfold cnt; omega
theorem cnt_mono {p q : Nat → Bool} : ∀ k, (∀ i, i < k → p i = true → q i = true) → cnt p k ≤ cnt q k
  | 0, _ => Nat.le_refl 0
  | k + 1, h => by
    have h1 := cnt_mono k (fun i hi => h i (by omega))
    have h2 := h k (by omega)
    unfold cnt
    cases hp : p k
    · simp; omega
    · rw [h2 hp]; simp; omega
theorem cnt_lt {p q : Nat → Bool} : ∀ k, (∀ i, i < k → p i = true → q i = true) → (∃ i, i < k ∧ q i = true ∧ p i = false) → cnt p k < cnt q k
  | 0, _, ⟨i, hi, _⟩ => absurd hi (by omega)
  | k + 1, h, ⟨i, hi, hq, hp⟩ => by
    have h1 := cnt_mono k (fun i hi => h i (by omega))
    by_cases e : i = k
    · subst e
      unfold cnt
      rw [hq, hp]; simp; omega
    · have h3 := cnt_lt k (fun i hi => h i (by omega)) ⟨i, by omega, hq, hp⟩
      have h2 := h k (by omega)
      unfold cnt
      cases hp : p k
      · simp; omega
      · rw [h2 hp]; simp; omega
theorem cnt_congr {p q : Nat → Bool} : ∀ k, (∀ i, i < k → p i = q i) → cnt p k = cnt q k
  | 0, _ => rfl
  | k + 1, h => by unfold cnt; rw [cnt_congr k (fun i hi => h i (by omega)), h k (by omega)]
theorem cnt_pos {p : Nat → Bool} {k i : Nat} (hi : i < k) (h : p i = true) : 0 < cnt p k := by
  have h0 : cnt (fun _ => false) k = 0 := by
    have : ∀ k, cnt (fun _ => false) k = 0 := by
      intro k; induction k with
      | zero => rfl
      | succ k ih => unfold cnt; rw [ih]; rfl
    exact this k
  rw [← h0]
  exact cnt_lt k (fun i _ q => by cases q) ⟨i, hi, h, rfl⟩
/-- x's bits are among y's -/
def sbs (x y : Nat) : Prop := ∀ i, x.testBit i = true → y.testBit i = true
theorem sbs_rf (x : Nat) : sbs x x := fun _ h => h
theorem sbs_tr {x y z : Nat} (a : sbs x y) (b : sbs y z) : sbs x z := fun i h => b i (a i h)
theorem sbs_l (x y : Nat) : sbs x (x ||| y) := fun i h => by rw [Nat.testBit_or, h]; rfl
theorem sbs_r (x y : Nat) : sbs y (x ||| y) := fun i h => by rw [Nat.testBit_or, h]; simp
theorem sbs_as {x y : Nat} (a : sbs x y) (b : sbs y x) : x = y := Nat.eq_of_testBit_eq (fun i => bool_ext ⟨a i, b i⟩)
theorem sbs_grow {x y k : Nat} (hx : x < 2 ^ k) (hy : y < 2 ^ k) (a : sbs x y) (hn : x ≠ y) : cnt (fun i => x.testBit i) k < cnt (fun i => y.testBit i) k := by
  refine cnt_lt k (fun i _ => a i) ?_
  apply Classical.byContradiction
  intro h
  apply hn
  refine nb_ext hx hy (fun i hi => ?_)
  apply bool_ext
  refine ⟨a i, fun q => ?_⟩
  apply Classical.byContradiction
  intro z
  exact h ⟨i, hi, q, by simpa using z⟩
/-- a row of growing sets stands still somewhere -/
theorem grow_rest {k : Nat} (s : Nat → Nat) (hl : ∀ t, s t < 2 ^ k) (hg : ∀ t, sbs (s t) (s (t + 1))) (h0 : s 0 ≠ 0) : ∃ t, t < k ∧ s (t + 1) = s t := by
  apply Classical.byContradiction
  intro h
  have h1 : ∀ t, t ≤ k → t + 1 ≤ cnt (fun i => (s t).testBit i) k := by
    intro t
    induction t with
    | zero =>
      intro _
      have : ∃ i, i < k ∧ (s 0).testBit i = true := by
        apply Classical.byContradiction
        intro z
        apply h0
        refine (nb_zero (hl 0)).mpr (fun i hi => ?_)
        cases e : (s 0).testBit i
        · rfl
        · exact absurd ⟨i, hi, e⟩ z
      obtain ⟨i, hi, hb⟩ := this
      have := cnt_pos (p := fun i => (s 0).testBit i) hi hb
      omega
    | succ t ih =>
      intro ht
      have h2 := ih (by omega)
      have h3 := sbs_grow (hl t) (hl (t + 1)) (hg t) (fun e => h ⟨t, by omega, e.symm⟩)
      omega
  have h4 := h1 k (Nat.le_refl k)
  have h5 := cnt_le (fun i => (s k).testBit i) k
  omega
theorem mem_bo {B : GB} {b : Nat} (hb : b < B.length) : (bo B b, bs B b) ∈ B := by
  have : B[b]'hb ∈ B := List.getElem_mem hb
  unfold bo bs
  rw [List.getD_eq_getElem?_getD, List.getElem?_eq_getElem hb]
  exact this
theorem bo_mem {B : GB} {q : Nat × List Nat} (h : q ∈ B) : ∃ b, b < B.length ∧ bo B b = q.1 ∧ bs B b = q.2 := by
  obtain ⟨b, hb, e⟩ := List.getElem_of_mem h
  refine ⟨b, hb, ?_, ?_⟩
  · unfold bo; rw [List.getD_eq_getElem?_getD, List.getElem?_eq_getElem hb, e]; rfl
  · unfold bs; rw [List.getD_eq_getElem?_getD, List.getElem?_eq_getElem hb, e]; rfl
theorem oo_bit {B : GB} {s n : Nat} : (oo B s).testBit n = true ↔ (n, [s]) ∈ B := by
  unfold oo
  rw [orf_bit]
  constructor
  · rintro ⟨b, hb, h⟩
    unfold ooF at h
    split at h
    · rename_i q
      rw [nb_pow, decide_eq_true_iff] at h
      have := mem_bo hb
      obtain ⟨q1, q2⟩ := q
      match hh : bs B b, q1 with
      | [a], _ =>
        unfold bsy at q2
        rw [hh] at q2
        have : a = s := q2
        rw [← this, ← h, ← hh]
        exact mem_bo hb
    · rw [Nat.zero_testBit] at h; cases h
  · intro h
    obtain ⟨b, hb, h1, h2⟩ := bo_mem h
    refine ⟨b, hb, ?_⟩
    unfold ooF bsy
    rw [h1, h2]
    simp
theorem swp_sbs (B : GB) (x : Nat) : ∀ k, sbs x (swp B x k)
  | 0 => sbs_rf x
  | k + 1 => by
    have := swp_sbs B x k
    unfold swp
    split
    · exact sbs_tr this (sbs_l _ _)
    · exact this
theorem swp_mono (B : GB) (x k : Nat) : ∀ d, sbs (swp B x k) (swp B x (k + d))
  | 0 => sbs_rf _
  | d + 1 => by
    refine sbs_tr (swp_mono B x k d) ?_
    show sbs (swp B x (k + d)) (swp B x (k + d + 1))
    rw [swp]
    split
    · exact sbs_l _ _
    · exact sbs_rf _
theorem swp_snd {B : GB} {S : Nat → Prop} {x : Nat} (h : ∀ n, x.testBit n = true → UpC B S n) : ∀ k n, (swp B x k).testBit n = true → UpC B S n
  | 0, n, q => h n q
  | k + 1, n, q => by
    unfold swp at q
    split at q
    · rename_i z
      rw [Nat.testBit_or, Bool.or_eq_true] at q
      rcases q with q | q
      · exact swp_snd h k n q
      · exact UpC_st (oo_bit.mp q) (swp_snd h k k z)
    · exact swp_snd h k n q
theorem rnds_snd {B : GB} {nn x : Nat} : ∀ t n, (rnds B nn x t).testBit n = true → UpC B (fun m => x.testBit m = true) n
  | 0, _, q => UpC_of q
  | t + 1, n, q => swp_snd (rnds_snd t) nn n q
theorem gup_bit {B : GB} {nn : Nat} (hB : bok B nn) {x : Nat} (hx : x < 2 ^ 6) (n : Nat) : (gup B nn x).testBit n = true ↔ UpC B (fun m => x.testBit m = true) n := by
  constructor
  · exact rnds_snd 6 n
  · have rest : swp B (gup B nn x) nn = gup B nn x := by
      by_cases h0 : x = 0
      · subst h0
        have z : ∀ k, swp B 0 k = 0 := by
          intro k
          induction k with
          | zero => rfl
          | succ k ih => rw [swp, ih, Nat.zero_testBit]; rfl
        have z2 : ∀ t, rnds B nn 0 t = 0 := by
          intro t
          induction t with
          | zero => rfl
          | succ t ih => rw [rnds, ih, z]
        unfold gup
        rw [z2, z]
      · obtain ⟨t, ht, e⟩ := grow_rest (k := 6) (fun t => rnds B nn x t) (rnds_lt hB hx) (fun t => swp_sbs B _ nn) h0
        have : ∀ d, rnds B nn x (t + d) = rnds B nn x t := by
          intro d
          induction d with
          | zero => rfl
          | succ d ih => rw [← Nat.add_assoc, rnds, ih]; exact e
        unfold gup
        rw [show 6 = t + (6 - t) by omega, this]
        exact e
    intro h
    refine h (fun n => (gup B nn x).testBit n = true) (fun m hm => ?_) (fun m n hb hm => ?_)
    · have : ∀ t, sbs x (rnds B nn x t) := by
        intro t
        induction t with
        | zero => exact sbs_rf x
        | succ t ih => exact sbs_tr ih (swp_sbs B _ nn)
      exact this 6 m hm
    · obtain ⟨b, hb1, h1, h2⟩ := bo_mem hb
      have h3 := (hB.2.2 b hb1).2.2.2 0 (by rw [h2]; simp)
      unfold bsy at h3
      rw [h2] at h3
      have h4 : m < nn := by
        have : 4 + m < 4 + nn := h3
        omega
      have h5 : sbs (swp B (gup B nn x) (m + 1)) (gup B nn x) := by
        have := swp_mono B (gup B nn x) (m + 1) (nn - (m + 1))
        rw [show m + 1 + (nn - (m + 1)) = nn by omega, rest] at this
        exact this
      apply h5
      rw [swp, if_pos (swp_sbs B _ m m hm), Nat.testBit_or, oo_bit.mpr hb]
      simp

/-! lessons: what a word brings -/
def pst (dry : Bool) (t : List (List Nat) × Nat) (u : List Nat) : List (List Nat) × Nat := (if dry = true then t.1 else addP t.1 u, t.2 + (decide (t.1.length < 16 ∧ u ∉ t.1)).toNat)
def pS (dry : Bool) (w : List Nat) (m : Nat) : Nat → List (List Nat) × Nat → List (List Nat) × Nat
  | 0, s => s
  | k + 1, s => pst dry (pS dry w m k s) (sb w k (k + (m + 1)))
def pA (dry : Bool) (w : List Nat) : Nat → List (List Nat) × Nat → List (List Nat) × Nat
  | 0, s => s
  | m + 1, s => pS dry w m (w.length - m) (pA dry w m s)
def qst (dry : Bool) (t : CL × Nat) (c : List Nat × List Nat) : CL × Nat := (if dry = true then t.1 else addC t.1 c, t.2 + (decide (t.1.length < 12 ∧ c ∉ t.1)).toNat)
def qS (dry : Bool) (w : List Nat) (b : Nat) : Nat → CL × Nat → CL × Nat
  | 0, s => s
  | k + 1, s => qst dry (qS dry w b k s) (sb w 0 k, sb w (w.length - b + k) w.length)
def qA (dry : Bool) (w : List Nat) : Nat → CL × Nat → CL × Nat
  | 0, s => s
  | b + 1, s => qS dry w b (b + 1) (qA dry w b s)
/-- the parts and contexts behind a word that was lacked -/
def lkP (P : List (List Nat)) (w : List Nat) : List (List Nat) := (pA false w w.length (P, 0)).1
def lkC (C : CL) (w : List Nat) : CL := (qA false w w.length (C, 0)).1
def brg (P : List (List Nat)) (C : CL) (w : List Nat) : Prop := (P.length < 16 ∧ ∃ i j, i < j ∧ j ≤ w.length ∧ sb w i j ∉ P) ∨ (C.length < 12 ∧ ∃ i j, i < j ∧ j ≤ w.length ∧ (sb w 0 i, sb w j w.length) ∉ C)
noncomputable def brB (P : List (List Nat)) (C : CL) (w : List Nat) : Bool := @decide (brg P C w) (Classical.propDecidable _)
theorem brB_iff {P : List (List Nat)} {C : CL} {w : List Nat} : brB P C w = true ↔ brg P C w := @decide_eq_true_iff _ (Classical.propDecidable _)
theorem brB_no {P : List (List Nat)} {C : CL} {w : List Nat} : brB P C w = false ↔ ¬ brg P C w := by rw [← brB_iff]; cases brB P C w <;> simp
theorem b2n (b : Bool) : 0 < b.toNat ↔ b = true := by cases b <;> simp
section TH
variable {w : List Nat} {P : List (List Nat)} {C : CL}
theorem addP_ok {u : List Nat} (hP : POK P) (hu : wok u ∧ 1 ≤ u.length ∧ u.length ≤ 6) : POK (addP P u) := by
  unfold addP
  split
  · rename_i q
    refine ⟨by simp; omega, fun v hv => ?_⟩
    rcases List.mem_append.mp hv with z | z
    · exact hP.2 v z
    · have : v = u := by simpa using z
      rw [this]; exact hu
  · exact hP
theorem addC_ok {c : List Nat × List Nat} (hC : COK C) (hc : wok c.1 ∧ wok c.2 ∧ c.1.length + c.2.length ≤ 5) : COK (addC C c) := by
  unfold addC
  split
  · rename_i q
    refine ⟨by simp; omega, fun v hv => ?_⟩
    rcases List.mem_append.mp hv with z | z
    · exact hC.2 v z
    · have : v = c := by simpa using z
      rw [this]; exact hc
  · exact hC
theorem addP_len (P : List (List Nat)) (u : List Nat) : (addP P u).length = P.length + (decide (P.length < 16 ∧ u ∉ P)).toNat := by
  unfold addP
  split
  · rename_i q; rw [decide_eq_true q]; simp
  · rename_i q; rw [decide_eq_false q]; simp
theorem addC_len (C : CL) (c : List Nat × List Nat) : (addC C c).length = C.length + (decide (C.length < 12 ∧ c ∉ C)).toNat := by
  unfold addC
  split
  · rename_i q; rw [decide_eq_true q]; simp
  · rename_i q; rw [decide_eq_false q]; simp
theorem addP_pre (P : List (List Nat)) (u : List Nat) : P <+: addP P u := by
  unfold addP
  split
  · exact List.prefix_append _ _
  · exact List.prefix_rfl
theorem addC_pre (C : CL) (c : List Nat × List Nat) : C <+: addC C c := by
  unfold addC
  split
  · exact List.prefix_append _ _
  · exact List.prefix_rfl
theorem pst_ok {dry : Bool} {t : List (List Nat) × Nat} {u : List Nat} (hP : POK t.1) (hu : wok u ∧ 1 ≤ u.length ∧ u.length ≤ 6) : POK (pst dry t u).1 := by
  unfold pst
  cases dry
  · exact addP_ok hP hu
  · exact hP
theorem sb_ok6 (hw : wok w) (hl : w.length ≤ 6) {i j : Nat} (hij : i < j) (hj : j ≤ w.length) : wok (sb w i j) ∧ 1 ≤ (sb w i j).length ∧ (sb w i j).length ≤ 6 := by
  refine ⟨wok_sb hw _ _, ?_, ?_⟩ <;> rw [sb_len _ hj] <;> omega
theorem sb_ok5 (hw : wok w) (hl : w.length ≤ 6) {i j : Nat} (hij : i < j) (hj : j ≤ w.length) : wok (sb w 0 i) ∧ wok (sb w j w.length) ∧ (sb w 0 i).length + (sb w j w.length).length ≤ 5 := by
  refine ⟨wok_sb hw _ _, wok_sb hw _ _, ?_⟩
  rw [sb_len _ (by omega), sb_len _ (Nat.le_refl _)]
  omega
theorem pS_ok {dry : Bool} (hw : wok w) (hl : w.length ≤ 6) {m : Nat} : ∀ k s, k + m ≤ w.length → POK s.1 → POK (pS dry w m k s).1
  | 0, s, _, h => h
  | k + 1, s, hk, h => pst_ok (pS_ok hw hl k s (by omega) h) (sb_ok6 hw hl (by omega) (by omega))
theorem pA_ok {dry : Bool} (hw : wok w) (hl : w.length ≤ 6) : ∀ m s, m ≤ w.length → POK s.1 → POK (pA dry w m s).1
  | 0, s, _, h => h
  | m + 1, s, hm, h => pS_ok hw hl _ _ (by omega) (pA_ok hw hl m s (by omega) h)
theorem qS_ok {dry : Bool} (hw : wok w) (hl : w.length ≤ 6) {b : Nat} (hb : b < w.length) : ∀ k s, k ≤ b + 1 → COK s.1 → COK (qS dry w b k s).1
  | 0, s, _, h => h
  | k + 1, s, hk, h => by
    have ih := qS_ok (dry := dry) hw hl hb k s (by omega) h
    show COK (qst dry _ _).1
    unfold qst
    cases dry
    · exact addC_ok ih (sb_ok5 hw hl (by omega) (by omega))
    · exact ih
theorem qA_ok {dry : Bool} (hw : wok w) (hl : w.length ≤ 6) : ∀ b s, b ≤ w.length → COK s.1 → COK (qA dry w b s).1
  | 0, s, _, h => h
  | b + 1, s, hb, h => qS_ok hw hl (by omega) _ _ (Nat.le_refl _) (qA_ok hw hl b s (by omega) h)
theorem pS_wet {m : Nat} : ∀ k s, (pS false w m k s).2 + s.1.length = s.2 + (pS false w m k s).1.length
  | 0, s => by rw [pS]
  | k + 1, s => by
    have ih := pS_wet (m := m) k s
    have e := addP_len (pS false w m k s).1 (sb w k (k + (m + 1)))
    show (pS false w m k s).2 + _ + s.1.length = s.2 + (addP (pS false w m k s).1 _).length
    omega
theorem pA_wet : ∀ m s, (pA false w m s).2 + s.1.length = s.2 + (pA false w m s).1.length
  | 0, s => by rw [pA]
  | m + 1, s => by
    have ih := pA_wet m s
    have e := pS_wet (w := w) (m := m) (w.length - m) (pA false w m s)
    show (pS false w m _ _).2 + _ = _ + (pS false w m _ _).1.length
    omega
theorem qS_wet {b : Nat} : ∀ k s, (qS false w b k s).2 + s.1.length = s.2 + (qS false w b k s).1.length
  | 0, s => by rw [qS]
  | k + 1, s => by
    have ih := qS_wet (b := b) k s
    have e := addC_len (qS false w b k s).1 (sb w 0 k, sb w (w.length - b + k) w.length)
    show (qS false w b k s).2 + _ + s.1.length = s.2 + (addC (qS false w b k s).1 _).length
    omega
theorem qA_wet : ∀ b s, (qA false w b s).2 + s.1.length = s.2 + (qA false w b s).1.length
  | 0, s => by rw [qA]
  | b + 1, s => by
    have ih := qA_wet b s
    have e := qS_wet (w := w) (b := b) (b + 1) (qA false w b s)
    show (qS false w b _ _).2 + _ = _ + (qS false w b _ _).1.length
    omega
theorem pS_dry {m : Nat} : ∀ k s, (pS true w m k s).1 = s.1
  | 0, s => rfl
  | k + 1, s => pS_dry k s
theorem pA_dry : ∀ m s, (pA true w m s).1 = s.1
  | 0, s => rfl
  | m + 1, s => (pS_dry _ _).trans (pA_dry m s)
theorem qS_dry {b : Nat} : ∀ k s, (qS true w b k s).1 = s.1
  | 0, s => rfl
  | k + 1, s => qS_dry k s
theorem qA_dry : ∀ b s, (qA true w b s).1 = s.1
  | 0, s => rfl
  | b + 1, s => (qS_dry _ _).trans (qA_dry b s)
theorem pS_b {dry : Bool} {m : Nat} : ∀ k s, (pS dry w m k s).2 ≤ s.2 + k
  | 0, s => Nat.le_refl _
  | k + 1, s => by
    have ih := pS_b (dry := dry) (m := m) k s
    show (pS dry w m k s).2 + (decide _).toNat ≤ _
    have : ∀ b : Bool, b.toNat ≤ 1 := by decide
    have := this (decide ((pS dry w m k s).1.length < 16 ∧ sb w k (k + (m + 1)) ∉ (pS dry w m k s).1))
    omega
theorem pA_b {dry : Bool} (hl : w.length ≤ 6) : ∀ m s, (pA dry w m s).2 ≤ s.2 + m * 6
  | 0, s => by rw [pA]; omega
  | m + 1, s => by
    have ih := pA_b (dry := dry) hl m s
    have := pS_b (dry := dry) (w := w) (m := m) (w.length - m) (pA dry w m s)
    show (pS dry w m _ _).2 ≤ _
    omega
theorem qS_b {dry : Bool} {b : Nat} : ∀ k s, (qS dry w b k s).2 ≤ s.2 + k
  | 0, s => Nat.le_refl _
  | k + 1, s => by
    have ih := qS_b (dry := dry) (b := b) k s
    show (qS dry w b k s).2 + (decide _).toNat ≤ _
    have : ∀ b : Bool, b.toNat ≤ 1 := by decide
    have := this (decide ((qS dry w b k s).1.length < 12 ∧ (sb w 0 k, sb w (w.length - b + k) w.length) ∉ (qS dry w b k s).1))
    omega
theorem qA_b {dry : Bool} : ∀ b s, b ≤ 6 → (qA dry w b s).2 ≤ s.2 + b * 7
  | 0, s, _ => by rw [qA]; omega
  | b + 1, s, hb => by
    have ih := qA_b (dry := dry) b s (by omega)
    have := qS_b (dry := dry) (w := w) (b := b) (b + 1) (qA dry w b s)
    show (qS dry w b _ _).2 ≤ _
    omega
theorem pS_pos {m : Nat} : ∀ k s, 0 < (pS true w m k s).2 ↔ 0 < s.2 ∨ (s.1.length < 16 ∧ ∃ i, i < k ∧ sb w i (i + (m + 1)) ∉ s.1)
  | 0, s => by
    rw [pS]
    constructor
    · exact Or.inl
    · rintro (h | ⟨_, i, h, _⟩)
      · exact h
      · omega
  | k + 1, s => by
    have ih := pS_pos (m := m) k s
    show 0 < (pS true w m k s).2 + (decide ((pS true w m k s).1.length < 16 ∧ sb w k (k + (m + 1)) ∉ (pS true w m k s).1)).toNat ↔ _
    rw [pS_dry, show ∀ a b : Nat, (0 < a + b ↔ 0 < a ∨ 0 < b) by omega, ih, b2n, decide_eq_true_iff]
    constructor
    · rintro ((h | ⟨h1, i, h2, h3⟩) | ⟨h1, h2⟩)
      · exact Or.inl h
      · exact Or.inr ⟨h1, i, by omega, h3⟩
      · exact Or.inr ⟨h1, k, by omega, h2⟩
    · rintro (h | ⟨h1, i, h2, h3⟩)
      · exact Or.inl (Or.inl h)
      · by_cases e : i = k
        · subst e; exact Or.inr ⟨h1, h3⟩
        · exact Or.inl (Or.inr ⟨h1, i, by omega, h3⟩)
theorem pA_pos : ∀ m s, m ≤ w.length → (0 < (pA true w m s).2 ↔ 0 < s.2 ∨ (s.1.length < 16 ∧ ∃ i j, i < j ∧ j ≤ w.length ∧ j - i ≤ m ∧ sb w i j ∉ s.1))
  | 0, s, _ => by
    rw [pA]
    constructor
    · exact Or.inl
    · rintro (h | ⟨_, i, j, h, _, h2, _⟩)
      · exact h
      · omega
  | m + 1, s, hm => by
    have ih := pA_pos m s (by omega)
    show 0 < (pS true w m (w.length - m) (pA true w m s)).2 ↔ _
    rw [pS_pos, ih, pA_dry]
    constructor
    · rintro ((h | ⟨h1, i, j, h2, h3, h4, h5⟩) | ⟨h1, i, h2, h3⟩)
      · exact Or.inl h
      · exact Or.inr ⟨h1, i, j, h2, h3, by omega, h5⟩
      · exact Or.inr ⟨h1, i, i + (m + 1), by omega, by omega, by omega, h3⟩
    · rintro (h | ⟨h1, i, j, h2, h3, h4, h5⟩)
      · exact Or.inl (Or.inl h)
      · by_cases e : j = i + (m + 1)
        · subst e; exact Or.inr ⟨h1, i, by omega, h5⟩
        · exact Or.inl (Or.inr ⟨h1, i, j, h2, h3, by omega, h5⟩)
theorem qS_pos {b : Nat} : ∀ k s, 0 < (qS true w b k s).2 ↔ 0 < s.2 ∨ (s.1.length < 12 ∧ ∃ i, i < k ∧ (sb w 0 i, sb w (w.length - b + i) w.length) ∉ s.1)
  | 0, s => by
    rw [qS]
    constructor
    · exact Or.inl
    · rintro (h | ⟨_, i, h, _⟩)
      · exact h
      · omega
  | k + 1, s => by
    have ih := qS_pos (b := b) k s
    show 0 < (qS true w b k s).2 + (decide ((qS true w b k s).1.length < 12 ∧ (sb w 0 k, sb w (w.length - b + k) w.length) ∉ (qS true w b k s).1)).toNat ↔ _
    rw [qS_dry, show ∀ a b : Nat, (0 < a + b ↔ 0 < a ∨ 0 < b) by omega, ih, b2n, decide_eq_true_iff]
    constructor
    · rintro ((h | ⟨h1, i, h2, h3⟩) | ⟨h1, h2⟩)
      · exact Or.inl h
      · exact Or.inr ⟨h1, i, by omega, h3⟩
      · exact Or.inr ⟨h1, k, by omega, h2⟩
    · rintro (h | ⟨h1, i, h2, h3⟩)
      · exact Or.inl (Or.inl h)
      · by_cases e : i = k
        · subst e; exact Or.inr ⟨h1, h3⟩
        · exact Or.inl (Or.inr ⟨h1, i, by omega, h3⟩)
theorem qA_pos : ∀ b s, b ≤ w.length → (0 < (qA true w b s).2 ↔ 0 < s.2 ∨ (s.1.length < 12 ∧ ∃ i j, i < j ∧ j ≤ w.length ∧ w.length - (j - i) < b ∧ (sb w 0 i, sb w j w.length) ∉ s.1))
  | 0, s, _ => by
    rw [qA]
    constructor
    · exact Or.inl
    · rintro (h | ⟨_, i, j, h, _, h2, _⟩)
      · exact h
      · omega
  | b + 1, s, hb => by
    have ih := qA_pos b s (by omega)
    show 0 < (qS true w b (b + 1) (qA true w b s)).2 ↔ _
    rw [qS_pos, ih, qA_dry]
    constructor
    · rintro ((h | ⟨h1, i, j, h2, h3, h4, h5⟩) | ⟨h1, i, h2, h3⟩)
      · exact Or.inl h
      · exact Or.inr ⟨h1, i, j, h2, h3, by omega, h5⟩
      · exact Or.inr ⟨h1, i, w.length - b + i, by omega, by omega, by omega, h3⟩
    · rintro (h | ⟨h1, i, j, h2, h3, h4, h5⟩)
      · exact Or.inl (Or.inl h)
      · by_cases e : j = w.length - b + i
        · subst e; exact Or.inr ⟨h1, i, by omega, h5⟩
        · exact Or.inl (Or.inr ⟨h1, i, j, h2, h3, by omega, h5⟩)
theorem dry_iff {P : List (List Nat)} {C : CL} : 0 < (pA true w w.length (P, 0)).2 + (qA true w w.length (C, 0)).2 ↔ brg P C w := by
  rw [show ∀ a b : Nat, (0 < a + b ↔ 0 < a ∨ 0 < b) by omega, pA_pos _ _ (Nat.le_refl _), qA_pos _ _ (Nat.le_refl _)]
  unfold brg
  constructor
  · rintro ((h | ⟨h1, i, j, h2, h3, _, h5⟩) | (h | ⟨h1, i, j, h2, h3, _, h5⟩))
    · exact absurd h (Nat.lt_irrefl 0)
    · exact Or.inl ⟨h1, i, j, h2, h3, h5⟩
    · exact absurd h (Nat.lt_irrefl 0)
    · exact Or.inr ⟨h1, i, j, h2, h3, h5⟩
  · rintro (⟨h1, i, j, h2, h3, h5⟩ | ⟨h1, i, j, h2, h3, h5⟩)
    · exact Or.inl (Or.inr ⟨h1, i, j, h2, h3, by omega, h5⟩)
    · exact Or.inr (Or.inr ⟨h1, i, j, h2, h3, by omega, h5⟩)
end TH
/-! a word that is had wrongly: down its tree to the rule that is refuted -/
section TH
variable {B : GB} {P : List (List Nat)} {C : CL}
/-- x takes a row -/
noncomputable def tkr (B : GB) (C : CL) (x : Nat) (u : List Nat) : Bool := derB B (inC (gC C x) u) 0
def RFn (B : GB) (P : List (List Nat)) (C : CL) (w : List Nat) : Nat → Nat → Nat → Nat → (Nat × Nat × Nat) → (Nat × Nat × Nat) → Prop
  | 0, _, _, _, _, _ => False
  | n + 1, x, i, j, R, S => ∃ k y z, SPL B P C w x i j k y z ∧ ((tkr B C y (sb w i k) = false ∧ RFn B P C w n y i k R S) ∨ (tkr B C y (sb w i k) = true ∧ tkr B C z (sb w k j) = false ∧ RFn B P C w n z k j R S) ∨ (tkr B C y (sb w i k) = true ∧ tkr B C z (sb w k j) = true ∧ R = (x, y, z) ∧ S = (i, k, j)))
/-- the first parts are the signs, the first context is the empty one -/
def PSG (B : GB) (P : List (List Nat)) (C : CL) : Prop := (sgl B).length ≤ P.length ∧ (∀ i, i < (sgl B).length → gA P i = [(sgl B).getD i 0]) ∧ 1 ≤ C.length ∧ gC C 0 = ([], [])
theorem nat_least {p : Nat → Prop} (h : ∃ n, p n) : ∃ n, p n ∧ ∀ m, m < n → ¬ p m := by
  obtain ⟨n, hn⟩ := h
  induction n using Nat.strongRecOn with
  | _ n ih =>
    by_cases q : ∃ m, m < n ∧ p m
    · obtain ⟨m, h1, h2⟩ := q; exact ih m h1 h2
    · exact ⟨n, hn, fun m hm hp => q ⟨m, hm, hp⟩⟩
theorem SPL_ex (hC : C.length ≤ 12) {w : List Nat} {x i j : Nat} (h1 : i + 2 ≤ j) (h2 : j ≤ w.length) (hx : (hs B P C (sb w i j)).testBit x = true) : ∃ k y z, SPL B P C w x i j k y z := by
  obtain ⟨k0, a1, a2, a3⟩ := hs_jn hC h1 h2 hx
  have ex : ∃ k, i < k ∧ k < j ∧ (jn B P C (hs B P C (sb w i k)) (hs B P C (sb w k j))).testBit x = true := ⟨k0, a1, a2, a3⟩
  obtain ⟨k, ⟨b1, b2, b3⟩, b4⟩ := nat_least ex
  obtain ⟨y0, z0, c1, c2, c3⟩ := (jn_bit hC).mp b3
  obtain ⟨y, ⟨d1, z1, d2, d3⟩, d4⟩ := nat_least (p := fun y => (hs B P C (sb w i k)).testBit y = true ∧ ∃ z, (hs B P C (sb w k j)).testBit z = true ∧ R2 B P C x y z = true) ⟨y0, c1, z0, c2, c3⟩
  obtain ⟨z, ⟨e1, e2⟩, e3⟩ := nat_least (p := fun z => (hs B P C (sb w k j)).testBit z = true ∧ R2 B P C x y z = true) ⟨z1, d2, d3⟩
  refine ⟨k, y, z, b1, b2, d1, e1, e2, fun k' q1 q2 => ?_, fun y' z' q1 q2 q3 => ?_, fun z' q1 q2 => ?_⟩
  · rw [Bool.eq_false_iff]; exact fun q => b4 k' q2 ⟨q1, by omega, q⟩
  · rw [Bool.eq_false_iff]; exact fun q => d4 y' q1 ⟨q2, z', q3, q⟩
  · rw [Bool.eq_false_iff]; exact fun q => e3 z' q1 ⟨q2, q⟩
theorem gA_of {u : List Nat} (hu : u ∈ P) : ∃ p, p < P.length ∧ gA P p = u := by
  obtain ⟨p, hp, e⟩ := List.mem_iff_getElem.mp hu
  exact ⟨p, hp, by unfold gA; rw [List.getD_eq_getElem?_getD, List.getElem?_eq_getElem hp]; exact e⟩
theorem RF_ex (hC : C.length ≤ 12) (hS : PSG B P C) {w : List Nat} : ∀ n x i j, j - i ≤ n → i < j → j ≤ w.length → (hs B P C (sb w i j)).testBit x = true → tkr B C x (sb w i j) = false → ∃ R S, RFn B P C w n x i j R S ∧ ¬ (sb w S.1 S.2.1 ∈ P ∧ sb w S.2.1 S.2.2 ∈ P) := by
  intro n
  induction n with
  | zero => intro x i j h1 h2; omega
  | succ n ih =>
    intro x i j h1 h2 h3 h4 h5
    by_cases h6 : j = i + 1
    · subst h6
      exfalso
      rw [sb_one (by omega), hs_1, sgX_bit] at h4
      rw [sb_one (by omega)] at h5
      simp only [Bool.and_eq_true, decide_eq_true_iff] at h4
      obtain ⟨_, c2, c3⟩ := h4
      have hi := idxOf_lt' c2
      unfold colN at c3
      rw [nms_bit] at c3
      simp only [Bool.and_eq_true, decide_eq_true_iff] at c3
      have c4 := c3.2
      unfold tk1 w1 at c4
      rw [hS.2.1 _ hi, getD_idx c2] at c4
      unfold tkr at h5
      rw [c4] at h5; cases h5
    · obtain ⟨k, y, z, s⟩ := SPL_ex hC (by omega) h3 h4
      obtain ⟨a1, a2, a3, a4, a5, _⟩ := id s
      cases ty : tkr B C y (sb w i k) with
      | false =>
        obtain ⟨R, S, q1, q2⟩ := ih y i k (by omega) a1 (by omega) a3 ty
        exact ⟨R, S, ⟨k, y, z, s, Or.inl ⟨ty, q1⟩⟩, q2⟩
      | true =>
        cases tz : tkr B C z (sb w k j) with
        | false =>
          obtain ⟨R, S, q1, q2⟩ := ih z k j (by omega) a2 h3 a4 tz
          exact ⟨R, S, ⟨k, y, z, s, Or.inr (Or.inl ⟨ty, tz, q1⟩)⟩, q2⟩
        | true =>
          refine ⟨(x, y, z), (i, k, j), ⟨k, y, z, s, Or.inr (Or.inr ⟨ty, tz, rfl, rfl⟩)⟩, ?_⟩
          rintro ⟨m1, m2⟩
          replace m1 : sb w i k ∈ P := m1
          replace m2 : sb w k j ∈ P := m2
          obtain ⟨p, hp, ep⟩ := gA_of m1
          obtain ⟨q, hq, eq⟩ := gA_of m2
          obtain ⟨_, _, _, _, _, rr⟩ := R2_iff.mp a5
          have cy : (colN B P C y).testBit p = true := by
            unfold colN
            rw [nms_bit]
            simp only [Bool.and_eq_true, decide_eq_true_iff]
            refine ⟨hp, ?_⟩
            unfold tk1 w1
            rw [ep]; exact ty
          have cz : (colN B P C z).testBit q = true := by
            unfold colN
            rw [nms_bit]
            simp only [Bool.and_eq_true, decide_eq_true_iff]
            refine ⟨hq, ?_⟩
            unfold tk1 w1
            rw [eq]; exact tz
          have c := rr p hp cy q cz
          unfold prN at c
          rw [nms_bit] at c
          simp only [Bool.and_eq_true, decide_eq_true_iff] at c
          have c2 := c.2
          unfold tk2 w2 at c2
          rw [ep, eq, sb_app (by omega) (by omega) h3] at c2
          unfold tkr at h5
          rw [c2] at h5; cases h5
theorem RF_b (hC : C.length ≤ 12) {w : List Nat} {R S : Nat × Nat × Nat} : ∀ n x i j, j ≤ w.length → x < C.length → RFn B P C w n x i j R S → (R.1 < C.length ∧ R.2.1 < C.length ∧ R.2.2 < C.length) ∧ S.1 < S.2.1 ∧ S.2.1 < S.2.2 ∧ S.2.2 ≤ w.length := by
  intro n
  induction n with
  | zero => intro x i j _ _ h; exact h.elim
  | succ n ih =>
    rintro x i j hj hx ⟨k, y, z, s, q⟩
    obtain ⟨a1, a2, a3, a4, a5, _⟩ := s
    have hy := hs_nc hC a3
    have hz := hs_nc hC a4
    rcases q with ⟨_, q⟩ | ⟨_, _, q⟩ | ⟨_, _, q1, q2⟩
    · exact ih y i k (by omega) hy q
    · exact ih z k j hj hz q
    · rw [q1, q2]; exact ⟨⟨hx, hy, hz⟩, a1, a2, hj⟩
end TH

/-! what a grammar tells: bodies (name, symbols); a symbol below 4 is a sign, 4 + k the name k -/
abbrev GB : Type := List (Nat × List Nat)
def Sy (P : List Nat → Nat → Prop) (s : Nat) (u : List Nat) : Prop := if s < 4 then u = [s] else P u (s - 4)
def Mt (P : List Nat → Nat → Prop) : List Nat → List Nat → Prop
  | [], w => w = []
  | s :: ss, w => ∃ u v, w = u ++ v ∧ Sy P s u ∧ Mt P ss v
def Dcl (B : GB) (P : List Nat → Nat → Prop) : Prop := ∀ n ss, (n, ss) ∈ B → ∀ w, Mt P ss w → P w n
def Der (B : GB) (w : List Nat) (n : Nat) : Prop := ∀ P, Dcl B P → P w n
theorem Sy_mono {P P' : List Nat → Nat → Prop} {s : Nat} {u : List Nat} (h : ∀ w n, P w n → P' w n) (hs : Sy P s u) : Sy P' s u := by
  unfold Sy at hs ⊢
  split
  · rename_i q; rw [if_pos q] at hs; exact hs
  · rename_i q; rw [if_neg q] at hs; exact h _ _ hs
theorem Mt_mono {P P' : List Nat → Nat → Prop} (h : ∀ w n, P w n → P' w n) : ∀ (ss w : List Nat), Mt P ss w → Mt P' ss w
  | [], w, hm => hm
  | s :: ss, w, hm => by
    obtain ⟨u, v, e, h1, h2⟩ := hm
    exact ⟨u, v, e, Sy_mono h h1, Mt_mono h ss v h2⟩
theorem Der_cl (B : GB) : Dcl B (Der B) := by
  intro n ss hb w hm P hP
  exact hP n ss hb w (Mt_mono (fun w n h => h P hP) ss w hm)
theorem Mt_snoc {P : List Nat → Nat → Prop} {s : Nat} : ∀ (ss w : List Nat), Mt P (ss ++ [s]) w ↔ ∃ u v, w = u ++ v ∧ Mt P ss u ∧ Sy P s v
  | [], w => by
    constructor
    · rintro ⟨u, v, e, h1, h2⟩
      have h2 : v = [] := h2
      subst h2
      exact ⟨[], u, by simpa using e, rfl, h1⟩
    · rintro ⟨u, v, e, h1, h2⟩
      have h1 : u = [] := h1
      subst h1
      exact ⟨v, [], by simpa using e, h2, rfl⟩
  | a :: ss, w => by
    constructor
    · rintro ⟨u, v, e, h1, h2⟩
      obtain ⟨u', v', e', h3, h4⟩ := (Mt_snoc ss v).mp h2
      exact ⟨u ++ u', v', by rw [e, e', List.append_assoc], ⟨u, u', rfl, h1, h3⟩, h4⟩
    · rintro ⟨u, v, e, ⟨u1, v1, e1, h1, h2⟩, h3⟩
      exact ⟨u1, v1 ++ v, by rw [e, e1, List.append_assoc], h1, (Mt_snoc ss (v1 ++ v)).mpr ⟨v1, v, rfl, h2, h3⟩⟩
def gok (B : GB) : Prop := ∀ q ∈ B, q.2 ≠ []
theorem Mt_ne {P : List Nat → Nat → Prop} (hP : ∀ w n, P w n → w ≠ []) : ∀ (ss w : List Nat), Mt P ss w → ss.length ≤ w.length
  | [], w, _ => Nat.zero_le _
  | s :: ss, w, hm => by
    obtain ⟨u, v, e, h1, h2⟩ := hm
    have h3 := Mt_ne hP ss v h2
    have h4 : u ≠ [] := by
      unfold Sy at h1
      split at h1
      · rw [h1]; simp
      · exact hP _ _ h1
    have h5 : 0 < u.length := List.length_pos_iff.mpr h4
    rw [e]
    simp
    omega
theorem Der_ne {B : GB} (hB : gok B) {w : List Nat} {n : Nat} (h : Der B w n) : w ≠ [] := by
  refine h (fun w _ => w ≠ []) ?_
  intro n ss hb w hm e
  have h1 := Mt_ne (P := fun w _ => w ≠ []) (fun _ _ q => q) ss w hm
  have h2 : 0 < ss.length := List.length_pos_iff.mpr (hB _ hb)
  rw [e] at h1
  simp at h1
  rw [h1] at h2
  simp at h2
/-- by a body of two or more, or of one sign -/
def D1 (B : GB) (w : List Nat) (n : Nat) : Prop := ∃ ss, (n, ss) ∈ B ∧ ((2 ≤ ss.length ∧ Mt (Der B) ss w) ∨ ∃ s, s < 4 ∧ ss = [s] ∧ w = [s])
/-- up through bodies of one name -/
def UpC (B : GB) (S : Nat → Prop) (n : Nat) : Prop := ∀ P : Nat → Prop, (∀ m, S m → P m) → (∀ m n, (n, [4 + m]) ∈ B → P m → P n) → P n
theorem UpC_of {B : GB} {S : Nat → Prop} {n : Nat} (h : S n) : UpC B S n := fun _ h1 _ => h1 n h
theorem UpC_st {B : GB} {S : Nat → Prop} {m n : Nat} (hb : (n, [4 + m]) ∈ B) (h : UpC B S m) : UpC B S n := fun P h1 h2 => h2 m n hb (h P h1 h2)
theorem Der_char {B : GB} (hB : gok B) (w : List Nat) (n : Nat) : Der B w n ↔ UpC B (D1 B w) n := by
  constructor
  · intro h
    have key : Dcl B (fun w n => Der B w n ∧ UpC B (D1 B w) n) := by
      intro n ss hb w hm
      have hd : Mt (Der B) ss w := Mt_mono (fun _ _ q => q.1) ss w hm
      refine ⟨Der_cl B n ss hb w hd, ?_⟩
      by_cases h2 : 2 ≤ ss.length
      · exact UpC_of ⟨ss, hb, Or.inl ⟨h2, hd⟩⟩
      · match ss, hb, hm, h2 with
        | [], hb, _, _ => exact absurd rfl (hB _ hb)
        | [s], hb, hm, _ =>
          obtain ⟨u, v, e, h1, h3⟩ := hm
          have h3 : v = [] := h3
          subst h3
          rw [List.append_nil] at e
          subst e
          unfold Sy at h1
          split at h1
          · rename_i hs
            exact UpC_of ⟨[s], hb, Or.inr ⟨s, hs, rfl, h1⟩⟩
          · rename_i hs
            refine UpC_st (m := s - 4) ?_ h1.2
            rw [show 4 + (s - 4) = s by omega]
            exact hb
        | _ :: _ :: _, _, _, h2 => exact absurd (by simp) h2
    exact (h _ key).2
  · intro h
    refine h (fun n => Der B w n) (fun m hm => ?_) (fun m n hb hm => ?_)
    · obtain ⟨ss, hb, h1 | ⟨s, hs, rfl, rfl⟩⟩ := hm
      · exact Der_cl B m ss hb w h1.2
      · exact Der_cl B m [s] hb [s] ⟨[s], [], rfl, by simp [Sy, hs], rfl⟩
    · refine Der_cl B n [4 + m] hb w ⟨w, [], by simp, ?_, rfl⟩
      unfold Sy
      rw [if_neg (by omega), show 4 + m - 4 = m by omega]
      exact hm
/-- symbols that can be matched over a piece -/
theorem Mt_one {P : List Nat → Nat → Prop} {s : Nat} {w : List Nat} : Mt P [s] w ↔ Sy P s w := by
  constructor
  · rintro ⟨u, v, e, h1, h2⟩
    have h2 : v = [] := h2
    subst h2
    rw [List.append_nil] at e
    rw [e]; exact h1
  · intro h
    exact ⟨w, [], by simp, h, rfl⟩
noncomputable def derB (B : GB) (w : List Nat) (n : Nat) : Bool := @decide (Der B w n) (Classical.propDecidable _)
theorem derB_iff {B : GB} {w : List Nat} {n : Nat} : derB B w n = true ↔ Der B w n := @decide_eq_true_iff _ (Classical.propDecidable _)
theorem derB_no {B : GB} {w : List Nat} {n : Nat} : derB B w n = false ↔ ¬ Der B w n := by
  rw [← derB_iff]; cases derB B w n <;> simp
/-- a set of at most six names as a Nat -/
noncomputable def nms (p : Nat → Bool) : Nat → Nat
  | 0 => 0
  | k + 1 => nms p k + (if p k then 2 ^ k else 0)
theorem nms_lt (p : Nat → Bool) : ∀ k, nms p k < 2 ^ k
  | 0 => by simp [nms]
  | k + 1 => by
    have := nms_lt p k
    simp only [nms, Nat.pow_succ]
    split <;> omega
theorem nms_bit (p : Nat → Bool) : ∀ k i, (nms p k).testBit i = (decide (i < k) && p i)
  | 0, i => by simp [nms]
  | k + 1, i => by
    have h1 := nms_lt p k
    have h2 := nms_bit p k
    have e : nms p (k + 1) = 2 ^ k * (if p k then 1 else 0) + nms p k := by
      simp only [nms]
      split <;> omega
    rw [e, Nat.testBit_two_pow_mul_add _ h1]
    by_cases hi : i < k
    · rw [if_pos hi, h2]
      simp [hi, show i < k + 1 by omega]
    · rw [if_neg hi]
      by_cases e2 : i = k
      · subst e2
        cases p i <;> simp
      · have : ¬ i < k + 1 := by omega
        simp only [this, decide_false, Bool.false_and]
        cases p k
        · simp
        · simp only [if_true]
          exact Nat.testBit_lt_two_pow (Nat.lt_of_lt_of_le (by omega : 1 < 2 ^ 1) (Nat.pow_le_pow_right (by omega) (by omega)))
theorem nms_eq {x k : Nat} {p : Nat → Bool} (hx : x < 2 ^ k) (h : ∀ i, i < k → x.testBit i = p i) : x = nms p k := by
  refine nb_ext hx (nms_lt p k) (fun i hi => ?_)
  rw [nms_bit, h i hi]
  simp [hi]

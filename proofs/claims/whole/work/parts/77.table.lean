/-! parts, contexts, the table -/
abbrev CL : Type := List (List Nat × List Nat)
def gC (C : CL) (i : Nat) : List Nat × List Nat := C.getD i ([], [])
theorem gC_l {C : CL} {u : List Nat × List Nat} {i : Nat} (h : i < C.length) : gC (C ++ [u]) i = gC C i := getD_l h
theorem gC_r {C : CL} {u : List Nat × List Nat} : gC (C ++ [u]) C.length = u := getD_r
theorem gC_mem {C : CL} {i : Nat} (h : i < C.length) : gC C i ∈ C := by
  unfold gC
  rw [List.getD_eq_getElem?_getD, List.getElem?_eq_getElem h]
  exact List.getElem_mem h
theorem mem_gC {C : CL} {u : List Nat × List Nat} (h : u ∈ C) : ∃ i, i < C.length ∧ gC C i = u := by
  obtain ⟨i, hi, e⟩ := List.getElem_of_mem h
  refine ⟨i, hi, ?_⟩
  unfold gC
  rw [List.getD_eq_getElem?_getD, List.getElem?_eq_getElem hi, e]; rfl
def inC (c : List Nat × List Nat) (u : List Nat) : List Nat := (c.1 ++ u) ++ c.2
noncomputable def sgl (B : GB) : List Nat := slk (sgB B) 4
def POK (P : List (List Nat)) : Prop := P.length ≤ 16 ∧ ∀ u ∈ P, wok u ∧ 1 ≤ u.length ∧ u.length ≤ 6
def COK (C : CL) : Prop := C.length ≤ 12 ∧ ∀ c ∈ C, wok c.1 ∧ wok c.2 ∧ c.1.length + c.2.length ≤ 5
theorem inC_ok {c : List Nat × List Nat} {u : List Nat} (hc : wok c.1 ∧ wok c.2 ∧ c.1.length + c.2.length ≤ 5) (hu : wok u ∧ 1 ≤ u.length ∧ u.length ≤ 12) : wok (inC c u) ∧ 1 ≤ (inC c u).length ∧ (inC c u).length ≤ 20 := by
  unfold inC
  refine ⟨wok_app (wok_app hc.1 hu.1) hc.2.1, ?_, ?_⟩ <;> simp <;> omega
def w1 (P : List (List Nat)) (C : CL) (x p : Nat) : List Nat := inC (gC C x) (gA P p)
def w2 (P : List (List Nat)) (C : CL) (x p q : Nat) : List Nat := inC (gC C x) (gA P p ++ gA P q)
theorem w1_ok {P : List (List Nat)} {C : CL} (hP : POK P) (hC : COK C) {x p : Nat} (hx : x < C.length) (hp : p < P.length) : wok (w1 P C x p) ∧ 1 ≤ (w1 P C x p).length ∧ (w1 P C x p).length ≤ 20 := by
  have := hP.2 _ (gA_mem hp)
  exact inC_ok (hC.2 _ (gC_mem hx)) ⟨this.1, this.2.1, by omega⟩
theorem w2_ok {P : List (List Nat)} {C : CL} (hP : POK P) (hC : COK C) {x p q : Nat} (hx : x < C.length) (hp : p < P.length) (hq : q < P.length) : wok (w2 P C x p q) ∧ 1 ≤ (w2 P C x p q).length ∧ (w2 P C x p q).length ≤ 20 := by
  have h1 := hP.2 _ (gA_mem hp)
  have h2 := hP.2 _ (gA_mem hq)
  exact inC_ok (hC.2 _ (gC_mem hx)) ⟨wok_app h1.1 h2.1, by simp; omega, by simp; omega⟩
noncomputable def tk1 (B : GB) (P : List (List Nat)) (C : CL) (x p : Nat) : Bool := derB B (w1 P C x p) 0
noncomputable def tk2 (B : GB) (P : List (List Nat)) (C : CL) (x p q : Nat) : Bool := derB B (w2 P C x p q) 0
noncomputable def colN (B : GB) (P : List (List Nat)) (C : CL) (x : Nat) : Nat := nms (tk1 B P C x) P.length
noncomputable def prN (B : GB) (P : List (List Nat)) (C : CL) (x p : Nat) : Nat := nms (tk2 B P C x p) P.length
theorem nms_s1 {p : Nat → Bool} {k : Nat} (h : p k = true) : nms p k ||| 2 ^ k = nms p (k + 1) := by
  have := nms_lt p k
  rw [nms, h, if_pos rfl]
  have e := Nat.two_pow_add_eq_or_of_lt this 1
  rw [Nat.mul_one] at e
  rw [Nat.or_comm, ← e]; omega
theorem nms_s0 {p : Nat → Bool} {k : Nat} (h : p k = false) : nms p (k + 1) = nms p k := by rw [nms, h]; rfl
theorem nms_congr {p q : Nat → Bool} : ∀ k, (∀ i, i < k → p i = q i) → nms p k = nms q k
  | 0, _ => rfl
  | k + 1, h => by rw [nms, nms, nms_congr k (fun i hi => h i (by omega)), h k (by omega)]
theorem nms_lt' (p : Nat → Bool) {k m : Nat} (h : k ≤ m) : nms p k < 2 ^ m := Nat.lt_of_lt_of_le (nms_lt p k) (Nat.pow_le_pow_right (by omega) h)
/-! the order in which the table is asked -/
def fP (P : List (List Nat)) (C : CL) (x : Nat) (A : List (List Nat)) : Nat → List (List Nat)
  | 0 => A
  | p + 1 => askA (fP P C x A p) (w1 P C x p)
def fQ (P : List (List Nat)) (C : CL) (x p : Nat) (A : List (List Nat)) : Nat → List (List Nat)
  | 0 => A
  | q + 1 => askA (fQ P C x p A q) (w2 P C x p q)
def fR (P : List (List Nat)) (C : CL) (x : Nat) (A : List (List Nat)) : Nat → List (List Nat)
  | 0 => A
  | p + 1 => fQ P C x p (fR P C x A p) P.length
def fT (P : List (List Nat)) (C : CL) (A : List (List Nat)) : Nat → List (List Nat)
  | 0 => A
  | x + 1 => fR P C x (fP P C x (fT P C A x) P.length) P.length
theorem askA_sub {A : List (List Nat)} {u v : List Nat} (h : v ∈ A) : v ∈ askA A u := by
  unfold askA
  split
  · exact h
  · exact List.mem_append_left _ h
theorem askA_mem (A : List (List Nat)) (u : List Nat) : u ∈ askA A u := by
  unfold askA
  split
  · assumption
  · simp
theorem askA_in {A : List (List Nat)} {u : List Nat} (h : u ∈ A) : askA A u = A := if_pos h
theorem fP_sub {P : List (List Nat)} {C : CL} {x : Nat} {A : List (List Nat)} {v : List Nat} (h : v ∈ A) : ∀ k, v ∈ fP P C x A k
  | 0 => h
  | k + 1 => askA_sub (fP_sub h k)
theorem fQ_sub {P : List (List Nat)} {C : CL} {x p : Nat} {A : List (List Nat)} {v : List Nat} (h : v ∈ A) : ∀ k, v ∈ fQ P C x p A k
  | 0 => h
  | k + 1 => askA_sub (fQ_sub h k)
theorem fR_sub {P : List (List Nat)} {C : CL} {x : Nat} {A : List (List Nat)} {v : List Nat} (h : v ∈ A) : ∀ k, v ∈ fR P C x A k
  | 0 => h
  | k + 1 => fQ_sub (fR_sub h k) _
theorem fT_sub {P : List (List Nat)} {C : CL} {A : List (List Nat)} {v : List Nat} (h : v ∈ A) : ∀ k, v ∈ fT P C A k
  | 0 => h
  | k + 1 => fR_sub (fP_sub (fT_sub h k) _) _
theorem fP_mem {P : List (List Nat)} {C : CL} {x : Nat} {A : List (List Nat)} {p : Nat} : ∀ k, p < k → w1 P C x p ∈ fP P C x A k
  | 0, h => by omega
  | k + 1, h => by
    by_cases e : p = k
    · subst e; exact askA_mem _ _
    · exact askA_sub (fP_mem k (by omega))
theorem fQ_mem {P : List (List Nat)} {C : CL} {x p : Nat} {A : List (List Nat)} {q : Nat} : ∀ k, q < k → w2 P C x p q ∈ fQ P C x p A k
  | 0, h => by omega
  | k + 1, h => by
    by_cases e : q = k
    · subst e; exact askA_mem _ _
    · exact askA_sub (fQ_mem k (by omega))
theorem fR_mem {P : List (List Nat)} {C : CL} {x : Nat} {A : List (List Nat)} {p q : Nat} (hq : q < P.length) : ∀ k, p < k → w2 P C x p q ∈ fR P C x A k
  | 0, h => by omega
  | k + 1, h => by
    by_cases e : p = k
    · subst e; exact fQ_mem _ hq
    · exact fQ_sub (fR_mem hq k (by omega)) _
theorem fP_stay {P : List (List Nat)} {C : CL} {x : Nat} {A : List (List Nat)} : ∀ k, (∀ p, p < k → w1 P C x p ∈ A) → fP P C x A k = A
  | 0, _ => rfl
  | k + 1, h => by rw [fP, fP_stay k (fun p hp => h p (by omega)), askA_in (h k (by omega))]
theorem fQ_stay {P : List (List Nat)} {C : CL} {x p : Nat} {A : List (List Nat)} : ∀ k, (∀ q, q < k → w2 P C x p q ∈ A) → fQ P C x p A k = A
  | 0, _ => rfl
  | k + 1, h => by rw [fQ, fQ_stay k (fun q hq => h q (by omega)), askA_in (h k (by omega))]
/-- of old parts and contexts all has been asked -/
def OLD (P : List (List Nat)) (C : CL) (pb cb : Nat) (A : List (List Nat)) : Prop := ∀ x, x < cb → (∀ p, p < pb → w1 P C x p ∈ A) ∧ ∀ p q, p < pb → q < pb → w2 P C x p q ∈ A
theorem fT_old {P : List (List Nat)} {C : CL} {A : List (List Nat)} : ∀ k, OLD P C P.length k (fT P C A k)
  | 0, x, hx => by omega
  | k + 1, x, hx => by
    by_cases e : x = k
    · subst e
      exact ⟨fun p hp => fR_sub (fP_mem _ hp) _, fun p q hp hq => fR_mem hq _ hp⟩
    · have h := fT_old (P := P) (C := C) (A := A) k x (by omega)
      exact ⟨fun p hp => fR_sub (fP_sub (h.1 p hp) _) _, fun p q hp hq => fR_sub (fP_sub (h.2 p q hp hq) _) _⟩
/-- all words of a table -/
def TWL (P : List (List Nat)) (C : CL) : List (List Nat) := (List.range C.length).flatMap (fun x => (List.range P.length).map (w1 P C x) ++ (List.range P.length).flatMap (fun p => (List.range P.length).map (w2 P C x p)))
theorem flat_len {α β : Type} {f : α → List β} {k : Nat} : ∀ (l : List α), (∀ x ∈ l, (f x).length ≤ k) → (l.flatMap f).length ≤ l.length * k
  | [], _ => by simp
  | a :: l, h => by
    have h1 := flat_len l (fun x hx => h x (List.mem_cons_of_mem _ hx))
    have h2 := h a List.mem_cons_self
    rw [List.flatMap_cons, List.length_append, List.length_cons, Nat.add_mul]
    omega
theorem TWL_len {P : List (List Nat)} {C : CL} (hP : P.length ≤ 16) (hC : C.length ≤ 12) : (TWL P C).length ≤ 3264 := by
  have h1 : (TWL P C).length ≤ (List.range C.length).length * 272 := by
    refine flat_len _ (fun x _ => ?_)
    rw [List.length_append, List.length_map, List.length_range]
    have h2 : ((List.range P.length).flatMap (fun p => (List.range P.length).map (w2 P C x p))).length ≤ (List.range P.length).length * 16 := by
      refine flat_len _ (fun p _ => ?_)
      rw [List.length_map, List.length_range]; exact hP
    rw [List.length_range] at h2
    omega
  rw [List.length_range] at h1
  omega
theorem TWL_1 {P : List (List Nat)} {C : CL} {x p : Nat} (hx : x < C.length) (hp : p < P.length) : w1 P C x p ∈ TWL P C := by
  unfold TWL
  rw [List.mem_flatMap]
  exact ⟨x, List.mem_range.mpr hx, List.mem_append_left _ (List.mem_map.mpr ⟨p, List.mem_range.mpr hp, rfl⟩)⟩
theorem TWL_2 {P : List (List Nat)} {C : CL} {x p q : Nat} (hx : x < C.length) (hp : p < P.length) (hq : q < P.length) : w2 P C x p q ∈ TWL P C := by
  unfold TWL
  rw [List.mem_flatMap]
  refine ⟨x, List.mem_range.mpr hx, List.mem_append_right _ (List.mem_flatMap.mpr ⟨p, List.mem_range.mpr hp, List.mem_map.mpr ⟨q, List.mem_range.mpr hq, rfl⟩⟩)⟩
theorem nodup_len {α : Type} [DecidableEq α] : ∀ (A W : List α), A.Nodup → (∀ u ∈ A, u ∈ W) → A.length ≤ W.length
  | [], _, _, _ => Nat.zero_le _
  | a :: A, W, hn, h => by
    have ha := h a List.mem_cons_self
    have hn2 := List.nodup_cons.mp hn
    have h1 := nodup_len A (W.erase a) hn2.2 (fun u hu => by
      have hne : u ≠ a := fun e => hn2.1 (by rw [← e]; exact hu)
      exact (List.mem_erase_of_ne hne).mpr (h u (List.mem_cons_of_mem _ hu)))
    rw [List.length_erase_of_mem ha] at h1
    have : 0 < W.length := List.length_pos_of_mem ha
    simp only [List.length_cons]; omega
/-- what was asked is of the table -/
def AIN (P : List (List Nat)) (C : CL) (A : List (List Nat)) : Prop := A.Nodup ∧ ∀ u ∈ A, u ∈ TWL P C
theorem AIN_len {P : List (List Nat)} {C : CL} {A : List (List Nat)} (hP : P.length ≤ 16) (hC : C.length ≤ 12) (h : AIN P C A) : A.length ≤ 3264 := Nat.le_trans (nodup_len _ _ h.1 h.2) (TWL_len hP hC)
theorem AIN_add {P : List (List Nat)} {C : CL} {A : List (List Nat)} {u : List Nat} (h : AIN P C A) (hu : u ∈ TWL P C) : AIN P C (askA A u) := by
  unfold askA
  split
  · exact h
  · rename_i q
    refine ⟨?_, ?_⟩
    · rw [List.nodup_append]
      refine ⟨h.1, by simp, ?_⟩
      intro a ha b hb e
      have : b = u := by simpa using hb
      rw [e, this] at ha; exact q ha
    · intro v hv
      rcases List.mem_append.mp hv with z | z
      · exact h.2 v z
      · have : v = u := by simpa using z
        rw [this]; exact hu
theorem AIN_lt {P : List (List Nat)} {C : CL} {A : List (List Nat)} {u : List Nat} (hP : P.length ≤ 16) (hC : C.length ≤ 12) (h : AIN P C A) (hu : u ∈ TWL P C) (hn : u ∉ A) : A.length < 3264 := by
  have := AIN_len hP hC (AIN_add h hu)
  unfold askA at this
  rw [if_neg hn, List.length_append] at this
  simp at this; omega
theorem fP_ain {P : List (List Nat)} {C : CL} {x : Nat} {A : List (List Nat)} (hx : x < C.length) (h : AIN P C A) : ∀ k, k ≤ P.length → AIN P C (fP P C x A k)
  | 0, _ => h
  | k + 1, hk => AIN_add (fP_ain hx h k (by omega)) (TWL_1 hx (by omega))
theorem fQ_ain {P : List (List Nat)} {C : CL} {x p : Nat} {A : List (List Nat)} (hx : x < C.length) (hp : p < P.length) (h : AIN P C A) : ∀ k, k ≤ P.length → AIN P C (fQ P C x p A k)
  | 0, _ => h
  | k + 1, hk => AIN_add (fQ_ain hx hp h k (by omega)) (TWL_2 hx hp (by omega))
theorem fR_ain {P : List (List Nat)} {C : CL} {x : Nat} {A : List (List Nat)} (hx : x < C.length) (h : AIN P C A) : ∀ k, k ≤ P.length → AIN P C (fR P C x A k)
  | 0, _ => h
  | k + 1, hk => fQ_ain hx (by omega) (fR_ain hx h k (by omega)) _ (Nat.le_refl _)
theorem fT_ain {P : List (List Nat)} {C : CL} {A : List (List Nat)} (h : AIN P C A) : ∀ k, k ≤ C.length → AIN P C (fT P C A k)
  | 0, _ => h
  | k + 1, hk => fR_ain (by omega) (fP_ain (by omega) (fT_ain h k (by omega)) _ (Nat.le_refl _)) _ (Nat.le_refl _)

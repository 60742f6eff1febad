/-- nothing else changed: ints of S, longs of T -/
def Fr (S T : List Nat) (h h' : KH) : Prop := h'.2.2 = h.2.2 ∧ (∀ a, a ∉ S → kI h' a = kI h a) ∧ ∀ a, a ∉ T → kL h' a = kL h a
theorem Fr_rf (S T : List Nat) (h : KH) : Fr S T h h := ⟨rfl, fun _ _ => rfl, fun _ _ => rfl⟩
theorem Fr_tr {S T S1 T1 : List Nat} {h h1 h2 : KH} (a : Fr S T h h1) (b : Fr S1 T1 h1 h2) (hS : ∀ x ∈ S1, x ∈ S) (hT : ∀ x ∈ T1, x ∈ T) : Fr S T h h2 :=
  ⟨b.1.trans a.1, fun x hx => (b.2.1 x (fun q => hx (hS x q))).trans (a.2.1 x hx), fun x hx => (b.2.2 x (fun q => hx (hT x q))).trans (a.2.2 x hx)⟩
theorem Fr_mono {S T S1 T1 : List Nat} {h h1 : KH} (b : Fr S1 T1 h h1) (hS : ∀ x ∈ S1, x ∈ S) (hT : ∀ x ∈ T1, x ∈ T) : Fr S T h h1 := Fr_tr (Fr_rf S T h) b hS hT
theorem Fr_sI {S T : List Nat} {h h1 : KH} (f : Fr S T h h1) {a j : Nat} {v : Int32} (ha : a ∈ S) : Fr S T h (sI h1 a j v) :=
  ⟨f.1, fun x hx => by rw [kI_sI, if_neg (fun e : x = a => hx (by rw [e]; exact ha))]; exact f.2.1 x hx, f.2.2⟩
theorem Fr_sL {S T : List Nat} {h h1 : KH} (f : Fr S T h h1) {a j : Nat} {v : Int64} (ha : a ∈ T) : Fr S T h (sL h1 a j v) :=
  ⟨f.1, f.2.1, fun x hx => by rw [kL_sL, if_neg (fun e : x = a => hx (by rw [e]; exact ha))]; exact f.2.2 x hx⟩
theorem Fr_sIA {S T : List Nat} {h h1 : KH} (f : Fr S T h h1) {a : Nat} {v : Nat → Int32} (ha : a ∈ S) : Fr S T h (sIA h1 a v) :=
  ⟨f.1, fun x hx => by rw [kI_sIA, if_neg (fun e : x = a => hx (by rw [e]; exact ha))]; exact f.2.1 x hx, f.2.2⟩
theorem Fr_sLA {S T : List Nat} {h h1 : KH} (f : Fr S T h h1) {a : Nat} {v : Nat → Int64} (ha : a ∈ T) : Fr S T h (sLA h1 a v) :=
  ⟨f.1, f.2.1, fun x hx => by rw [kL_sLA, if_neg (fun e : x = a => hx (by rw [e]; exact ha))]; exact f.2.2 x hx⟩
theorem Fr_W {S T : List Nat} {h h1 : KH} (f : Fr S T h h1) (w : kW h) : kW h1 := kW_same f.1 w
theorem Fr_R {S T : List Nat} {h h1 : KH} (f : Fr S T h h1) : kR h1 = kR h := by unfold kR; rw [f.1]
theorem Fr_K {S T : List Nat} {h h1 : KH} (f : Fr S T h h1) : kK h1 = kK h := by unfold kK; rw [f.1]
theorem Fr_N {S T : List Nat} {h h1 : KH} (f : Fr S T h h1) : kN h1 = kN h := by unfold kN; rw [f.1]
theorem upd_at (f : Nat → Int32) (k : Nat) (x : Int32) : upd f k x k = x := by simp [upd]
theorem upd_ne (f : Nat → Int32) {k j : Nat} (x : Int32) (h : j ≠ k) : upd f k x j = f j := by simp [upd, h]
theorem updL_at (f : Nat → Int64) (k : Nat) (x : Int64) : vp_updL f k x k = x := by simp [vp_updL]
theorem updL_ne (f : Nat → Int64) {k j : Nat} (x : Int64) (h : j ≠ k) : vp_updL f k x j = f j := by simp [vp_updL, h]

/-! words as Nats: a one and two bits a sign -/
theorem p4_pos (n : Nat) : 0 < 4 ^ n := Nat.pow_pos (by omega)
def vl (w : List Nat) : Nat := w.foldl (fun a s => 4 * a + s) 0
def cd (w : List Nat) : Nat := 4 ^ w.length + vl w
def wok (w : List Nat) : Prop := ∀ s ∈ w, s < 4
theorem vl_fold (w : List Nat) : ∀ a, w.foldl (fun a s => 4 * a + s) a = a * 4 ^ w.length + vl w := by
  induction w with
  | nil => intro a; simp [vl]
  | cons s w ih =>
    intro a
    simp only [List.foldl_cons, List.length_cons, vl]
    rw [ih, ih (4 * 0 + s), Nat.pow_succ]
    simp only [Nat.add_mul, Nat.mul_zero, Nat.zero_add]
    rw [Nat.add_assoc, Nat.mul_comm 4 a, Nat.mul_assoc, Nat.mul_comm 4 (4 ^ w.length)]
theorem vl_app (u v : List Nat) : vl (u ++ v) = vl u * 4 ^ v.length + vl v := by
  rw [vl, List.foldl_append, vl_fold]; rfl
theorem vl_cons (s : Nat) (w : List Nat) : vl (s :: w) = s * 4 ^ w.length + vl w := by
  rw [vl, List.foldl_cons, vl_fold]; simp
theorem vl_snoc (w : List Nat) (s : Nat) : vl (w ++ [s]) = 4 * vl w + s := by
  rw [vl_app]; simp [vl]; omega
theorem vl_lt {w : List Nat} (h : wok w) : vl w < 4 ^ w.length := by
  induction w with
  | nil => simp [vl]
  | cons s w ih =>
    have h1 := ih (fun x hx => h x (List.mem_cons_of_mem _ hx))
    have h2 := h s List.mem_cons_self
    rw [vl_cons, List.length_cons, Nat.pow_succ]
    have h3 : s * 4 ^ w.length ≤ 3 * 4 ^ w.length := Nat.mul_le_mul_right _ (by omega)
    omega
theorem cd_app (u v : List Nat) : cd (u ++ v) = cd u * 4 ^ v.length + vl v := by
  simp only [cd, vl_app, List.length_append, Nat.pow_add, Nat.add_mul]; omega
theorem cd_snoc (w : List Nat) (s : Nat) : cd (w ++ [s]) = 4 * cd w + s := by
  rw [cd_app]; simp [vl]; omega
theorem cd_nil : cd [] = 1 := rfl
theorem cd_lo (w : List Nat) : 4 ^ w.length ≤ cd w := Nat.le_add_right _ _
theorem cd_hi {w : List Nat} (h : wok w) : cd w < 2 * 4 ^ w.length := by
  have := vl_lt h
  unfold cd; omega
theorem cd_pos (w : List Nat) : 0 < cd w := Nat.lt_of_lt_of_le ((p4_pos _)) (cd_lo w)
theorem p4 (n : Nat) : 4 ^ n = 2 ^ (2 * n) := by rw [Nat.pow_mul]
theorem cd_lt {w : List Nat} (h : wok w) {k : Nat} (hk : w.length ≤ k) : cd w < 2 ^ (2 * k + 1) := by
  have h1 := cd_hi h
  rw [p4] at h1
  have h2 : 2 * 2 ^ (2 * w.length) = 2 ^ (2 * w.length + 1) := by rw [Nat.pow_succ]; omega
  have h3 : 2 ^ (2 * w.length + 1) ≤ 2 ^ (2 * k + 1) := Nat.pow_le_pow_right (by omega) (by omega)
  omega
theorem cd_log {w : List Nat} (h : wok w) : Nat.log2 (cd w) = 2 * w.length := by
  apply (Nat.log2_eq_iff (Nat.pos_iff_ne_zero.mp (cd_pos w))).mpr
  have h1 := cd_lo w
  have h2 := cd_hi h
  rw [p4] at h1 h2
  rw [Nat.pow_succ]
  omega
theorem wok_app {u v : List Nat} (hu : wok u) (hv : wok v) : wok (u ++ v) := fun s hs => (List.mem_append.mp hs).elim (hu s) (hv s)
theorem wok_sub {u w : List Nat} (h : wok w) (hs : ∀ s ∈ u, s ∈ w) : wok u := fun s q => h s (hs s q)
theorem wok_take {w : List Nat} (h : wok w) (n : Nat) : wok (w.take n) := wok_sub h (fun _ q => List.mem_of_mem_take q)
theorem wok_drop {w : List Nat} (h : wok w) (n : Nat) : wok (w.drop n) := wok_sub h (fun _ q => List.mem_of_mem_drop q)
theorem wok_l {u v : List Nat} (h : wok (u ++ v)) : wok u := wok_sub h (fun _ q => List.mem_append_left _ q)
theorem wok_r {u v : List Nat} (h : wok (u ++ v)) : wok v := wok_sub h (fun _ q => List.mem_append_right _ q)
theorem wok_nil : wok [] := fun _ h => by cases h
theorem vl_inj : ∀ {u v : List Nat}, wok u → wok v → u.length = v.length → vl u = vl v → u = v
  | [], [], _, _, _, _ => rfl
  | [], _ :: _, _, _, h, _ => by simp at h
  | _ :: _, [], _, _, h, _ => by simp at h
  | a :: u, b :: v, hu, hv, hl, he => by
    simp only [List.length_cons, Nat.add_right_cancel_iff] at hl
    rw [vl_cons, vl_cons, hl] at he
    have h1 := vl_lt (fun x hx => hu x (List.mem_cons_of_mem _ hx) : wok u)
    have h2 := vl_lt (fun x hx => hv x (List.mem_cons_of_mem _ hx) : wok v)
    rw [hl] at h1
    have hp : 0 < 4 ^ v.length := (p4_pos _)
    have ha : a = b := by
      have e1 : (a * 4 ^ v.length + vl u) / 4 ^ v.length = a := by
        rw [Nat.mul_comm, Nat.mul_add_div hp, Nat.div_eq_of_lt h1, Nat.add_zero]
      have e2 : (b * 4 ^ v.length + vl v) / 4 ^ v.length = b := by
        rw [Nat.mul_comm, Nat.mul_add_div hp, Nat.div_eq_of_lt h2, Nat.add_zero]
      rw [← e1, he, e2]
    subst ha
    have hvv : vl u = vl v := by omega
    rw [vl_inj (fun x hx => hu x (List.mem_cons_of_mem _ hx)) (fun x hx => hv x (List.mem_cons_of_mem _ hx)) hl hvv]
theorem cd_inj {u v : List Nat} (hu : wok u) (hv : wok v) (h : cd u = cd v) : u = v := by
  have hl : u.length = v.length := by
    have h1 := cd_log hu
    rw [h, cd_log hv] at h1
    omega
  refine vl_inj hu hv hl ?_
  unfold cd at h
  rw [hl] at h
  omega
/-- signs by places -/
theorem vl_take {w : List Nat} (h : wok w) (k : Nat) : vl w / 4 ^ (w.drop k).length = vl (w.take k) := by
  have h1 := vl_app (w.take k) (w.drop k)
  rw [List.take_append_drop] at h1
  rw [h1, Nat.mul_comm, Nat.mul_add_div ((p4_pos _)), Nat.div_eq_of_lt (vl_lt (wok_drop h k)), Nat.add_zero]
theorem vl_drop {w : List Nat} (h : wok w) (k : Nat) : vl w % 4 ^ (w.drop k).length = vl (w.drop k) := by
  have h1 := vl_app (w.take k) (w.drop k)
  rw [List.take_append_drop] at h1
  rw [h1, Nat.mul_add_mod_self_right, Nat.mod_eq_of_lt (vl_lt (wok_drop h k))]
theorem cd_take {w : List Nat} (h : wok w) {k : Nat} (hk : k ≤ w.length) : cd w / 4 ^ (w.length - k) = cd (w.take k) := by
  have h1 := cd_app (w.take k) (w.drop k)
  rw [List.take_append_drop] at h1
  have hl : (w.drop k).length = w.length - k := List.length_drop
  rw [hl] at h1
  have h2 := vl_lt (wok_drop h k)
  rw [hl] at h2
  rw [h1, Nat.mul_comm, Nat.mul_add_div ((p4_pos _)), Nat.div_eq_of_lt h2, Nat.add_zero]
theorem cd_drop {w : List Nat} (h : wok w) {k : Nat} (hk : k ≤ w.length) : cd w % 4 ^ (w.length - k) = vl (w.drop k) := by
  have h1 := cd_app (w.take k) (w.drop k)
  rw [List.take_append_drop] at h1
  have hl : (w.drop k).length = w.length - k := List.length_drop
  rw [hl] at h1
  have h2 := vl_lt (wok_drop h k)
  rw [hl] at h2
  rw [h1, Nat.mul_add_mod_self_right, Nat.mod_eq_of_lt h2]
theorem cd_sign {w : List Nat} (h : wok w) {k : Nat} (hk : k < w.length) : cd w / 4 ^ (w.length - 1 - k) % 4 = w.getD k 0 := by
  have e : w.length - 1 - k = w.length - (k + 1) := by omega
  rw [e, cd_take h (by omega)]
  have h2 : w.take (k + 1) = w.take k ++ [w.getD k 0] := by
    rw [List.take_succ, List.getD_eq_getElem?_getD]
    simp [hk]
  rw [h2, cd_snoc]
  have : w.getD k 0 < 4 := by
    rw [List.getD_eq_getElem?_getD, List.getElem?_eq_getElem hk]
    exact h _ (List.getElem_mem hk)
  omega
/-- a piece of a word -/
def sb (w : List Nat) (i j : Nat) : List Nat := (w.take j).drop i
theorem sb_len (w : List Nat) {i j : Nat} (hj : j ≤ w.length) : (sb w i j).length = j - i := by simp [sb, Nat.min_eq_left hj]
theorem wok_sb {w : List Nat} (h : wok w) (i j : Nat) : wok (sb w i j) := wok_drop (wok_take h j) i
theorem cd_sb {w : List Nat} (h : wok w) {i j : Nat} (hi : i ≤ j) (hj : j ≤ w.length) : cd (sb w i j) = 4 ^ (j - i) + cd w / 4 ^ (w.length - j) % 4 ^ (j - i) := by
  rw [cd_take h hj]
  have hl : (w.take j).length = j := by simp [Nat.min_eq_left hj]
  have h2 := cd_drop (wok_take h j) (k := i) (by omega)
  rw [hl] at h2
  rw [h2, cd, show (sb w i j).length = j - i from sb_len w hj, sb]
/-! longs -/
theorem L_lsr {m k : Nat} (hm : m < 2 ^ 62) (hk : k < 64) : klsr (lN m) (nI k) = lN (m / 2 ^ k) := by
  refine pf_shr ?_ hm
  rw [z_c64 k hk, BitVec.toNat_ofNat]
  omega
theorem L_lsl {m k : Nat} (hk : k < 64) : klsl (lN m) (nI k) = lN (m * 2 ^ k) := wb_shl m hk
theorem L_lus {m k : Nat} (hm : m < 2 ^ 64) (hk : k < 64) : klus (lN m) (nI k) = lN (m / 2 ^ k) := wb_shr hm hk
theorem L_or {a b : Nat} (ha : a < 2 ^ 64) (hb : b < 2 ^ 64) : lN a ||| lN b = lN (a ||| b) := wb_or ha hb
theorem L_and {a b : Nat} (ha : a < 2 ^ 64) (hb : b < 2 ^ 64) : lN a &&& lN b = lN (a &&& b) := wb_and ha hb
theorem L_mask {a k : Nat} (ha : a < 2 ^ 64) (hk : k < 64) : lN a &&& lN (2 ^ k - 1) = lN (a % 2 ^ k) := wb_mask ha hk
theorem n_or_add {a b k : Nat} (hb : b < 2 ^ k) : (a * 2 ^ k) ||| b = a * 2 ^ k + b := by
  rw [Nat.mul_comm, ← Nat.two_pow_add_eq_or_of_lt hb]
theorem n_xor_top {v k : Nat} (hv : v < 2 ^ k) : (2 ^ k + v) ^^^ 2 ^ k = v := by
  apply Nat.eq_of_testBit_eq
  intro i
  rw [Nat.testBit_xor, nb_pow]
  have h1 : (2 ^ k + v) = 2 ^ k ||| v := by
    have := n_or_add (a := 1) hv
    rw [Nat.one_mul] at this
    exact this.symm
  rw [h1, Nat.testBit_or, nb_pow]
  by_cases hi : k = i
  · subst hi
    simp [nb_ge hv (Nat.le_refl k)]
  · simp [hi]

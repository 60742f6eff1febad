/-! names, items and what waits, of a row of signs -/
noncomputable def msk (P : Nat → Prop) (k : Nat) : Nat := nms (fun j => @decide (P j) (Classical.propDecidable _)) k
theorem msk_lt (P : Nat → Prop) (k : Nat) : msk P k < 2 ^ k := nms_lt _ k
theorem msk_bit (P : Nat → Prop) (k i : Nat) : (msk P k).testBit i = true ↔ i < k ∧ P i := by
  unfold msk
  rw [nms_bit, Bool.and_eq_true, decide_eq_true_iff, @decide_eq_true_iff _ (Classical.propDecidable _)]
theorem msk_eq {x k : Nat} {P : Nat → Prop} (hx : x < 2 ^ k) (h : ∀ i, i < k → (x.testBit i = true ↔ P i)) : x = msk P k := by
  refine nb_ext hx (msk_lt P k) (fun i hi => bool_ext ?_)
  rw [msk_bit, h i hi]
  exact ⟨fun q => ⟨hi, q⟩, fun q => q.2⟩
noncomputable def NB (B : GB) (u : List Nat) : Nat := msk (fun n => Der B u n) 6
def itP (B : GB) (u : List Nat) (j : Nat) : Prop := j / 4 < B.length ∧ 1 < (bs B (j / 4)).length ∧ j % 4 < (bs B (j / 4)).length ∧ Mt (Der B) ((bs B (j / 4)).take (j % 4 + 1)) u
def wtP (B : GB) (u : List Nat) (j : Nat) : Prop := j / 4 < B.length ∧ j % 4 + 1 < (bs B (j / 4)).length ∧ Sy (Der B) (bsy B (j / 4) (j % 4 + 1)) u
noncomputable def IT (B : GB) (u : List Nat) : Nat := msk (itP B u) 64
noncomputable def WT (B : GB) (u : List Nat) : Nat := msk (wtP B u) 64
noncomputable def MI (B : GB) (u : List Nat) : Nat := msk (fun j => itP B u j ∧ j % 4 ≠ 0) 64
theorem NB_lt (B : GB) (u : List Nat) : NB B u < 2 ^ 6 := msk_lt _ 6
theorem IT_lt (B : GB) (u : List Nat) : IT B u < 2 ^ 64 := msk_lt _ 64
theorem WT_lt (B : GB) (u : List Nat) : WT B u < 2 ^ 64 := msk_lt _ 64
theorem MI_lt (B : GB) (u : List Nat) : MI B u < 2 ^ 64 := msk_lt _ 64
section TH
variable {B : GB} {nn : Nat}
theorem bok_gok (hB : bok B nn) : gok B := by
  intro q hq e
  obtain ⟨b, hb, _, h2⟩ := bo_mem hq
  have := (hB.2.2 b hb).2.1
  rw [h2, e] at this
  simp at this
theorem Der_nn (hB : bok B nn) {u : List Nat} {n : Nat} (h : Der B u n) : n < nn := by
  refine h (fun _ n => n < nn) ?_
  intro n ss hb w _
  obtain ⟨b, hb1, h1, _⟩ := bo_mem hb
  have := (hB.2.2 b hb1).1
  rw [h1] at this
  exact this
theorem NB_bit (hB : bok B nn) (u : List Nat) (n : Nat) : (NB B u).testBit n = true ↔ Der B u n := by
  unfold NB
  rw [msk_bit]
  exact ⟨fun q => q.2, fun q => ⟨by have := Der_nn hB q; have := hB.2.1; omega, q⟩⟩
theorem UpC_one {S : Nat → Prop} {n : Nat} : UpC B S n ↔ ∃ m, S m ∧ UpC B (fun k => k = m) n := by
  constructor
  · intro h
    exact h (fun n => ∃ m, S m ∧ UpC B (fun k => k = m) n) (fun m hm => ⟨m, hm, UpC_of rfl⟩) (fun m n hb ⟨k, h1, h2⟩ => ⟨k, h1, UpC_st hb h2⟩)
  · rintro ⟨m, h1, h2⟩ P hP hc
    exact h2 P (fun k hk => by rw [hk]; exact hP m h1) hc
theorem UpC_iff {S S' : Nat → Prop} (h : ∀ m, S m ↔ S' m) (n : Nat) : UpC B S n ↔ UpC B S' n := by
  have : S = S' := funext fun m => propext (h m)
  rw [this]
theorem ofs_up (hB : bok B nn) {x : Nat} (hx : x < 2 ^ 6) (n : Nat) : (ofs (upN B nn) x).testBit n = true ↔ UpC B (fun m => x.testBit m = true) n := by
  rw [ofs_bit, UpC_one]
  constructor
  · rintro ⟨m, h1, h2, h3⟩
    refine ⟨m, h2, ?_⟩
    have := (gup_bit hB (p2_6 h1) n).mp h3
    refine (UpC_iff (fun k => ?_) n).mp this
    rw [nb_pow, decide_eq_true_iff]
    exact eq_comm
  · rintro ⟨m, h1, h2⟩
    have hm : m < 6 := by
      rcases Nat.lt_or_ge m 6 with q | q
      · exact q
      · rw [nb_ge hx q] at h1; cases h1
    refine ⟨m, hm, h1, (gup_bit hB (p2_6 hm) n).mpr ?_⟩
    refine (UpC_iff (fun k => ?_) n).mp h2
    rw [nb_pow, decide_eq_true_iff]
    exact eq_comm
theorem Mt_len (hB : bok B nn) {ss u : List Nat} (h : Mt (Der B) ss u) : ss.length ≤ u.length := Mt_ne (fun _ _ q => Der_ne (bok_gok hB) q) ss u h
theorem NB_sign (hB : bok B nn) {s : Nat} (hs : s < 4) : gup B nn (oo B s) = NB B [s] := by
  refine nb_ext (gup_lt hB (oo_lt hB s)) (NB_lt B _) (fun n _ => bool_ext ?_)
  rw [gup_bit hB (oo_lt hB s), NB_bit hB, Der_char (bok_gok hB)]
  refine UpC_iff (fun m => ?_) n
  rw [oo_bit]
  constructor
  · intro h
    exact ⟨[s], h, Or.inr ⟨s, hs, rfl, rfl⟩⟩
  · rintro ⟨ss, hb, ⟨h1, h2⟩ | ⟨s', _, h1, h2⟩⟩
    · have := Mt_len hB h2
      simp at this; omega
    · have : s = s' := by simpa using h2
      rw [this, ← h1]; exact hb
theorem sw_bit {s j : Nat} : (sw B s).testBit j = true ↔ j / 4 < B.length ∧ j % 4 = 0 ∧ 1 < (bs B (j / 4)).length ∧ bsy B (j / 4) 0 = s := by
  unfold sw
  rw [orf_bit]
  constructor
  · rintro ⟨b, hb, h⟩
    unfold swF at h
    split at h
    · rename_i q
      rw [nb_pow, decide_eq_true_iff] at h
      have e1 : j / 4 = b := by omega
      rw [e1]
      exact ⟨hb, by omega, q.1, q.2⟩
    · rw [Nat.zero_testBit] at h; cases h
  · rintro ⟨h1, h2, h3, h4⟩
    refine ⟨j / 4, h1, ?_⟩
    unfold swF
    rw [if_pos ⟨h3, h4⟩, nb_pow, decide_eq_true_iff]
    omega
theorem wf_bit (hB : bok B nn) {s j : Nat} : (wf B s).testBit j = true ↔ j / 4 < B.length ∧ j % 4 + 1 < (bs B (j / 4)).length ∧ bsy B (j / 4) (j % 4 + 1) = s := by
  unfold wf
  rw [orf_bit]
  constructor
  · rintro ⟨b, hb, h⟩
    unfold wfF at h
    rw [orf_bit] at h
    obtain ⟨k, hk, h⟩ := h
    have h4 := (hB.2.2 b hb).2.2.1
    unfold wfI at h
    split at h
    · rename_i q
      rw [nb_pow, decide_eq_true_iff] at h
      have e1 : j / 4 = b := by omega
      have e2 : j % 4 = k := by omega
      rw [e1, e2]
      exact ⟨hb, by omega, q⟩
    · rw [Nat.zero_testBit] at h; cases h
  · rintro ⟨h1, h2, h3⟩
    refine ⟨j / 4, h1, ?_⟩
    unfold wfF
    rw [orf_bit]
    refine ⟨j % 4, by omega, ?_⟩
    unfold wfI
    rw [if_pos h3, nb_pow, decide_eq_true_iff]
    omega
/-- a symbol over a row: the sign itself, or a name that has it -/
theorem Sy_name {s : Nat} {u : List Nat} (hs : 4 ≤ s) : Sy (Der B) s u ↔ Der B u (s - 4) := by
  unfold Sy; rw [if_neg (by omega)]
theorem Sy_sign {s : Nat} {u : List Nat} (hs : s < 4) : Sy (Der B) s u ↔ u = [s] := by
  unfold Sy; rw [if_pos hs]
theorem ofs_st (hB : bok B nn) (u : List Nat) (j : Nat) : (ofs (stN B) (NB B u)).testBit j = true ↔ j / 4 < B.length ∧ j % 4 = 0 ∧ 1 < (bs B (j / 4)).length ∧ 4 ≤ bsy B (j / 4) 0 ∧ Der B u (bsy B (j / 4) 0 - 4) := by
  rw [ofs_bit]
  constructor
  · rintro ⟨n, h1, h2, h3⟩
    unfold stN at h3
    rw [sw_bit] at h3
    rw [NB_bit hB] at h2
    refine ⟨h3.1, h3.2.1, h3.2.2.1, by omega, ?_⟩
    rw [h3.2.2.2, show 4 + n - 4 = n by omega]; exact h2
  · rintro ⟨h1, h2, h3, h4, h5⟩
    refine ⟨bsy B (j / 4) 0 - 4, ?_, (NB_bit hB _ _).mpr h5, ?_⟩
    · have := Der_nn hB h5
      have := hB.2.1
      omega
    · unfold stN
      rw [sw_bit]
      exact ⟨h1, h2, h3, by omega⟩
theorem ofs_wa (hB : bok B nn) (u : List Nat) (j : Nat) : (ofs (waN B) (NB B u)).testBit j = true ↔ j / 4 < B.length ∧ j % 4 + 1 < (bs B (j / 4)).length ∧ 4 ≤ bsy B (j / 4) (j % 4 + 1) ∧ Der B u (bsy B (j / 4) (j % 4 + 1) - 4) := by
  rw [ofs_bit]
  constructor
  · rintro ⟨n, h1, h2, h3⟩
    unfold waN at h3
    rw [wf_bit hB] at h3
    rw [NB_bit hB] at h2
    refine ⟨h3.1, h3.2.1, by omega, ?_⟩
    rw [h3.2.2, show 4 + n - 4 = n by omega]; exact h2
  · rintro ⟨h1, h2, h3, h4⟩
    refine ⟨bsy B (j / 4) (j % 4 + 1) - 4, ?_, (NB_bit hB _ _).mpr h4, ?_⟩
    · have := Der_nn hB h4
      have := hB.2.1
      omega
    · unfold waN
      rw [wf_bit hB]
      exact ⟨h1, h2, by omega⟩
theorem take_1 {ss : List Nat} (h : 0 < ss.length) : ss.take 1 = [ss.getD 0 0] := by
  match ss, h with
  | a :: ss, _ => simp
theorem WT_big (hB : bok B nn) {u : List Nat} (hu : u.length ≠ 1) : ofs (waN B) (NB B u) = WT B u := by
  refine msk_eq (ofs_lt (fun n _ => wf_lt hB _) _) (fun j _ => ?_)
  rw [ofs_wa hB]
  constructor
  · rintro ⟨h1, h2, h3, h4⟩
    exact ⟨h1, h2, (Sy_name h3).mpr h4⟩
  · rintro ⟨h1, h2, h3⟩
    by_cases hs : bsy B (j / 4) (j % 4 + 1) < 4
    · rw [Sy_sign hs] at h3
      rw [h3] at hu; exact absurd rfl hu
    · exact ⟨h1, h2, by omega, (Sy_name (by omega)).mp h3⟩
theorem WT_sign (hB : bok B nn) {s : Nat} (hs : s < 4) : wf B s ||| ofs (waN B) (NB B [s]) = WT B [s] := by
  refine msk_eq (nor_lt (wf_lt hB _) (ofs_lt (fun n _ => wf_lt hB _) _)) (fun j _ => ?_)
  rw [Nat.testBit_or, Bool.or_eq_true, ofs_wa hB, wf_bit hB]
  constructor
  · rintro (⟨h1, h2, h3⟩ | ⟨h1, h2, h3, h4⟩)
    · refine ⟨h1, h2, ?_⟩
      rw [h3, Sy_sign hs]
    · exact ⟨h1, h2, (Sy_name h3).mpr h4⟩
  · rintro ⟨h1, h2, h3⟩
    by_cases h : bsy B (j / 4) (j % 4 + 1) < 4
    · rw [Sy_sign h] at h3
      have : s = bsy B (j / 4) (j % 4 + 1) := by simpa using h3
      exact Or.inl ⟨h1, h2, this.symm⟩
    · exact Or.inr ⟨h1, h2, by omega, (Sy_name (by omega)).mp h3⟩
theorem it_0 {u : List Nat} {j : Nat} (hj : j % 4 = 0) : itP B u j ↔ j / 4 < B.length ∧ 1 < (bs B (j / 4)).length ∧ Sy (Der B) (bsy B (j / 4) 0) u := by
  unfold itP
  rw [hj]
  constructor
  · rintro ⟨h1, h2, h3, h4⟩
    rw [take_1 (by omega), Mt_one] at h4
    exact ⟨h1, h2, h4⟩
  · rintro ⟨h1, h2, h3⟩
    refine ⟨h1, h2, by omega, ?_⟩
    rw [take_1 (by omega), Mt_one]; exact h3
theorem IT_sign (hB : bok B nn) {s : Nat} (hs : s < 4) : sw B s ||| ofs (stN B) (NB B [s]) = IT B [s] := by
  refine msk_eq (nor_lt (sw_lt hB _) (ofs_lt (fun n _ => sw_lt hB _) _)) (fun j _ => ?_)
  rw [Nat.testBit_or, Bool.or_eq_true, ofs_st hB, sw_bit]
  constructor
  · rintro (⟨h1, h2, h3, h4⟩ | ⟨h1, h2, h3, h4, h5⟩)
    · refine (it_0 h2).mpr ⟨h1, h3, ?_⟩
      rw [h4, Sy_sign hs]
    · exact (it_0 h2).mpr ⟨h1, h3, (Sy_name h4).mpr h5⟩
  · intro h
    have h0 : j % 4 = 0 := by
      have h4 := Mt_len hB h.2.2.2
      rw [List.length_take] at h4
      have := h.2.2.1
      simp at h4
      omega
    obtain ⟨h1, h2, h3⟩ := (it_0 h0).mp h
    by_cases q : bsy B (j / 4) 0 < 4
    · rw [Sy_sign q] at h3
      have : s = bsy B (j / 4) 0 := by simpa using h3
      exact Or.inl ⟨h1, h0, h2, this.symm⟩
    · exact Or.inr ⟨h1, h0, h2, by omega, (Sy_name (by omega)).mp h3⟩
theorem IT_big (hB : bok B nn) {u : List Nat} (hu : u.length ≠ 1) : MI B u ||| ofs (stN B) (NB B u) = IT B u := by
  refine msk_eq (nor_lt (MI_lt _ _) (ofs_lt (fun n _ => sw_lt hB _) _)) (fun j hj => ?_)
  rw [Nat.testBit_or, Bool.or_eq_true, ofs_st hB]
  unfold MI
  rw [msk_bit]
  constructor
  · rintro (⟨_, h, _⟩ | ⟨h1, h2, h3, h4, h5⟩)
    · exact h
    · exact (it_0 h2).mpr ⟨h1, h3, (Sy_name h4).mpr h5⟩
  · intro h
    by_cases h0 : j % 4 = 0
    · obtain ⟨h1, h2, h3⟩ := (it_0 h0).mp h
      by_cases q : bsy B (j / 4) 0 < 4
      · rw [Sy_sign q] at h3
        rw [h3] at hu; exact absurd rfl hu
      · exact Or.inr ⟨h1, h0, h2, by omega, (Sy_name (by omega)).mp h3⟩
    · exact Or.inl ⟨hj, h, h0⟩
end TH

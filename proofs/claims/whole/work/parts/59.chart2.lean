/-! items by splits, names by items -/
def nbF (B : GB) (x b : Nat) : Nat := if (x &&& wh B) / 2 ^ (b * 4) % 16 ≠ 0 then 2 ^ bo B b else 0
def nbf (B : GB) (x : Nat) : Nat := orf (nbF B x) B.length
def nbi (B : GB) (nn x : Nat) : Nat := ofs (upN B nn) (nbf B x)
section TH
variable {B : GB} {nn : Nat}
theorem take_s {ss : List Nat} {k : Nat} (h : k < ss.length) : ss.take (k + 1) = ss.take k ++ [ss.getD k 0] := by
  rw [List.take_succ, List.getElem?_eq_getElem h]
  simp [List.getD, List.getElem?_eq_getElem h]
theorem MI_0 (u : List Nat) : (MI B u).testBit 0 = false := by
  rw [Bool.eq_false_iff]
  intro h
  have := (msk_bit _ _ _).mp h
  exact this.2.2 rfl
theorem MI_s (hB : bok B nn) (u : List Nat) (j : Nat) (hj : j + 1 < 64) : (MI B u).testBit (j + 1) = true ↔ ∃ v z, u = v ++ z ∧ (IT B v).testBit j = true ∧ (WT B z).testBit j = true := by
  unfold MI
  rw [msk_bit]
  constructor
  · rintro ⟨_, ⟨h1, h2, h3, h4⟩, h5⟩
    have e1 : (j + 1) / 4 = j / 4 := by omega
    have e2 : (j + 1) % 4 = j % 4 + 1 := by omega
    rw [e1, e2] at h3 h4
    rw [e1] at h1 h2
    rw [take_s h3, Mt_snoc] at h4
    obtain ⟨v, z, e, hv, hz⟩ := h4
    refine ⟨v, z, e, ?_, ?_⟩
    · unfold IT; rw [msk_bit]
      exact ⟨by omega, h1, h2, by omega, hv⟩
    · unfold WT; rw [msk_bit]
      exact ⟨by omega, h1, h3, hz⟩
  · rintro ⟨v, z, e, hv, hz⟩
    unfold IT at hv
    unfold WT at hz
    rw [msk_bit] at hv hz
    obtain ⟨_, v1, v2, v3, v4⟩ := hv
    obtain ⟨_, z1, z2, z3⟩ := hz
    have h4 := (hB.2.2 _ z1).2.2.1
    have e1 : (j + 1) / 4 = j / 4 := by omega
    have e2 : (j + 1) % 4 = j % 4 + 1 := by omega
    refine ⟨hj, ⟨by rw [e1]; exact z1, by rw [e1]; exact v2, by rw [e1, e2]; exact z2, ?_⟩, by omega⟩
    rw [e1, e2, take_s z2, Mt_snoc]
    exact ⟨v, z, e, v4, z3⟩
theorem IT_nil (hB : bok B nn) (j : Nat) : (IT B []).testBit j = false := by
  rw [Bool.eq_false_iff]
  intro h
  have h := ((msk_bit _ _ _).mp h).2
  have h4 := Mt_len hB h.2.2.2
  rw [List.length_take, List.length_nil] at h4
  have := h.2.2.1
  omega
theorem WT_nil (hB : bok B nn) (j : Nat) : (WT B []).testBit j = false := by
  rw [Bool.eq_false_iff]
  intro h
  have h := ((msk_bit _ _ _).mp h).2.2.2
  unfold Sy at h
  split at h
  · cases h
  · exact Der_ne (bok_gok hB) h rfl
theorem wh_bit (hB : bok B nn) {j : Nat} : (wh B).testBit j = true ↔ j / 4 < B.length ∧ 1 < (bs B (j / 4)).length ∧ j % 4 + 1 = (bs B (j / 4)).length := by
  unfold wh
  rw [orf_bit]
  constructor
  · rintro ⟨b, hb, h⟩
    have h4 := (hB.2.2 b hb).2.2.1
    unfold whF at h
    split at h
    · rename_i q
      rw [nb_pow, decide_eq_true_iff] at h
      have e1 : j / 4 = b := by omega
      rw [e1]
      exact ⟨hb, q, by omega⟩
    · rw [Nat.zero_testBit] at h; cases h
  · rintro ⟨h1, h2, h3⟩
    refine ⟨j / 4, h1, ?_⟩
    unfold whF
    rw [if_pos h2, nb_pow, decide_eq_true_iff]
    omega
theorem nib {x b : Nat} : x / 2 ^ (b * 4) % 16 ≠ 0 ↔ ∃ k, k < 4 ∧ x.testBit (b * 4 + k) = true := by
  have hb : ∀ k, k < 4 → (x / 2 ^ (b * 4) % 16).testBit k = x.testBit (b * 4 + k) := by
    intro k hk
    rw [show (16 : Nat) = 2 ^ 4 from rfl, Nat.testBit_mod_two_pow, ← Nat.shiftRight_eq_div_pow, Nat.testBit_shiftRight]
    simp [hk]
  have hl : x / 2 ^ (b * 4) % 16 < 2 ^ 4 := Nat.mod_lt _ (by omega)
  rw [Ne, nb_zero hl]
  constructor
  · intro h
    apply Classical.byContradiction
    intro z
    apply h
    intro k hk
    rw [hb k hk]
    cases e : x.testBit (b * 4 + k)
    · rfl
    · exact absurd ⟨k, hk, e⟩ z
  · rintro ⟨k, hk, h⟩ z
    have := z k hk
    rw [hb k hk, h] at this
    cases this
theorem nbf_lt (hB : bok B nn) (x : Nat) : nbf B x < 2 ^ 6 := by
  refine orf_lt _ (fun b hb => ?_)
  have := (hB.2.2 b hb).1
  have := hB.2.1
  unfold nbF
  split
  · exact p2_6 (by omega)
  · omega
theorem nbi_MI (hB : bok B nn) {u : List Nat} (hu : u.length ≠ 1) : nbi B nn (MI B u) = NB B u := by
  refine nb_ext (ofs_lt (fun n hn => gup_lt hB (p2_6 hn)) _) (NB_lt B _) (fun n _ => bool_ext ?_)
  unfold nbi
  rw [ofs_up hB (nbf_lt hB _), NB_bit hB, Der_char (bok_gok hB)]
  refine UpC_iff (fun m => ?_) n
  unfold nbf
  rw [orf_bit]
  constructor
  · rintro ⟨b, hb, h⟩
    unfold nbF at h
    split at h
    · rename_i q
      rw [nb_pow, decide_eq_true_iff] at h
      obtain ⟨k, hk, hx⟩ := nib.mp q
      rw [Nat.testBit_and, Bool.and_eq_true, wh_bit hB] at hx
      obtain ⟨h1, _, h2, h3⟩ := hx
      have e1 : (b * 4 + k) / 4 = b := by omega
      have e2 : (b * 4 + k) % 4 = k := by omega
      rw [e1] at h2
      rw [e1, e2] at h3
      have h1 := ((msk_bit _ _ _).mp h1).2.1.2.2.2
      rw [e1, e2, h3, List.take_length] at h1
      refine ⟨bs B b, ?_, Or.inl ⟨h2, h1⟩⟩
      rw [← h]; exact mem_bo hb
    · rw [Nat.zero_testBit] at h; cases h
  · rintro ⟨ss, hb, ⟨h1, h2⟩ | ⟨s, _, h1, h2⟩⟩
    · obtain ⟨b, hb1, h3, h4⟩ := bo_mem hb
      have h3 : bo B b = m := h3
      have h4 : bs B b = ss := h4
      refine ⟨b, hb1, ?_⟩
      have k4 := (hB.2.2 b hb1).2.2.1
      have hl := hB.1
      unfold nbF
      rw [if_pos, nb_pow, h3]
      · simp
      · refine nib.mpr ⟨ss.length - 1, by rw [h4] at k4; omega, ?_⟩
        rw [h4] at k4
        have e1 : (b * 4 + (ss.length - 1)) / 4 = b := by omega
        have e2 : (b * 4 + (ss.length - 1)) % 4 = ss.length - 1 := by omega
        rw [Nat.testBit_and, Bool.and_eq_true, wh_bit hB, e1, e2, h4]
        refine ⟨?_, hb1, by omega, by omega⟩
        unfold MI
        rw [msk_bit]
        refine ⟨by omega, ⟨by rw [e1]; exact hb1, by rw [e1, h4]; omega, by rw [e1, e2, h4]; omega, ?_⟩, by omega⟩
        rw [e1, e2, h4, show ss.length - 1 + 1 = ss.length by omega, List.take_length]
        exact h2
    · rw [h2] at hu; exact absurd rfl hu
end TH

/-! laysNames -/
noncomputable def lnF (B : GB) (v : List Nat) (b : Nat) : Nat := if @decide (1 < (bs B b).length ∧ Mt (Der B) (bs B b) v) (Classical.propDecidable _) = true then 2 ^ bo B b else 0
/-- a body of one symbol asks nothing more of a set -/
def sat1 (B : GB) (v : List Nat) (x b : Nat) : Prop := (bs B b).length = 1 → x.testBit (bo B b) = true ∨ ¬ (if bsy B b 0 < 4 then v = [bsy B b 0] else x.testBit (bsy B b 0 - 4) = true)
theorem nb_or_same {x k : Nat} (h : x.testBit k = true) : x ||| 2 ^ k = x := by
  apply Nat.eq_of_testBit_eq
  intro i
  rw [Nat.testBit_or, nb_pow]
  by_cases e : k = i
  · subst e; simp [h]
  · simp [e]
section TH
variable {B : GB} {nn : Nat}
theorem lnF_sbs (hB : bok B nn) (v : List Nat) : ∀ k, k ≤ B.length → sbs (orf (lnF B v) k) (NB B v) := by
  intro k hk i h
  rw [orf_bit] at h
  obtain ⟨b, hb, h⟩ := h
  unfold lnF at h
  split at h
  · rename_i q
    rw [@decide_eq_true_iff _ (Classical.propDecidable _)] at q
    rw [nb_pow, decide_eq_true_iff] at h
    subst h
    rw [NB_bit hB]
    exact Der_cl B _ _ (mem_bo (by omega)) _ q.2
  · rw [Nat.zero_testBit] at h; cases h
theorem NB_step (hB : bok B nn) {v : List Nat} {x b : Nat} (hb : b < B.length) (hx : sbs x (NB B v)) (h1 : (bs B b).length = 1) (h2 : if bsy B b 0 < 4 then v = [bsy B b 0] else x.testBit (bsy B b 0 - 4) = true) : sbs (x ||| 2 ^ bo B b) (NB B v) := by
  intro i h
  rw [Nat.testBit_or, Bool.or_eq_true] at h
  rcases h with h | h
  · exact hx i h
  · rw [nb_pow, decide_eq_true_iff] at h
    subst h
    rw [NB_bit hB]
    refine Der_cl B _ _ (mem_bo hb) v ?_
    have e : bs B b = [bsy B b 0] := by
      have := take_1 (ss := bs B b) (by omega)
      rw [← h1, List.take_length] at this
      rw [this]
      unfold bsy
      rw [this]
    rw [e, Mt_one]
    unfold Sy
    split
    · rename_i q; rw [if_pos q] at h2; exact h2
    · rename_i q; rw [if_neg q] at h2; exact (NB_bit hB v _).mp (hx _ h2)
theorem NB_closed (hB : bok B nn) {v : List Nat} {x : Nat} (hx : x < 2 ^ 6) (h0 : sbs (orf (lnF B v) B.length) x) (h1 : sbs x (NB B v)) (h2 : ∀ b, b < B.length → sat1 B v x b) : x = NB B v := by
  refine sbs_as h1 (fun n hn => ?_)
  rw [NB_bit hB, Der_char (bok_gok hB)] at hn
  refine hn (fun n => x.testBit n = true) (fun m hm => ?_) (fun m n hb hm => ?_)
  · obtain ⟨ss, hb, ⟨q1, q2⟩ | ⟨s, hs, q1, q2⟩⟩ := hm
    · obtain ⟨b, hb1, e1, e2⟩ := bo_mem hb
      have e1 : bo B b = m := e1
      have e2 : bs B b = ss := e2
      apply h0
      rw [orf_bit]
      refine ⟨b, hb1, ?_⟩
      unfold lnF
      rw [if_pos, e1, nb_pow]
      · simp
      · rw [@decide_eq_true_iff _ (Classical.propDecidable _), e2]
        exact ⟨by omega, q2⟩
    · obtain ⟨b, hb1, e1, e2⟩ := bo_mem hb
      have e1 : bo B b = m := e1
      have e2 : bs B b = ss := e2
      have := h2 b hb1 (by rw [e2, q1]; rfl)
      have e3 : bsy B b 0 = s := by unfold bsy; rw [e2, q1]; rfl
      rw [e1, e3, if_pos hs] at this
      rcases this with z | z
      · exact z
      · exact absurd q2 z
  · obtain ⟨b, hb1, e1, e2⟩ := bo_mem hb
    have e1 : bo B b = n := e1
    have e2 : bs B b = [4 + m] := e2
    have := h2 b hb1 (by rw [e2]; rfl)
    have e3 : bsy B b 0 = 4 + m := by unfold bsy; rw [e2]; rfl
    rw [e1, e3, if_neg (by omega), show 4 + m - 4 = m by omega] at this
    rcases this with z | z
    · exact z
    · exact absurd hm z
end TH

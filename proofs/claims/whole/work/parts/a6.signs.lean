/-! signs of a context: by value and by number -/
theorem slk_pre (m : Nat) : ∀ d k, ∃ t, slk m (k + d) = slk m k ++ t
  | 0, k => ⟨[], by simp⟩
  | d + 1, k => by
    obtain ⟨t, ht⟩ := slk_pre m d k
    rw [← Nat.add_assoc, slk_s, ht]
    split
    · exact ⟨t ++ [k + d], by simp⟩
    · exact ⟨t, rfl⟩
theorem slk_idx {m k : Nat} (hk : k < 4) (hb : m.testBit k = true) : (slk m 4).idxOf k = (slk m k).length := by
  obtain ⟨t, ht⟩ := slk_pre m (4 - (k + 1)) (k + 1)
  rw [show k + 1 + (4 - (k + 1)) = 4 by omega, slk_s m k, if_pos hb] at ht
  have hl : (slk m k).length < (slk m 4).length := by rw [ht]; simp
  have hg : (slk m 4).getD (slk m k).length 0 = k := by
    rw [ht, getD_l (by simp), getD_r]
  have hn : (slk m 4).Nodup := List.Pairwise.filter _ List.nodup_range
  have := idx_get hn hl
  rw [hg] at this
  exact this
theorem cnt_slk (m c : Nat) : ∀ k, k ≤ 4 → cnt (fun s => decide (s ∈ slk m 4) && c.testBit ((slk m 4).idxOf s)) k = cnt (fun i => c.testBit i) (slk m k).length
  | 0, _ => rfl
  | k + 1, hk => by
    have ih := cnt_slk m c k (by omega)
    rw [cnt, ih, slk_s m k]
    by_cases hb : m.testBit k = true
    · rw [if_pos hb, List.length_append]
      show _ = cnt _ ((slk m k).length + 1)
      rw [cnt, slk_idx (by omega) hb, decide_eq_true (slk_mem.mpr ⟨by omega, hb⟩)]
      rfl
    · rw [if_neg hb, decide_eq_false (fun q => hb (slk_mem.mp q).2)]
      rfl
section TH
variable {B : GB} {P : List (List Nat)} {C : CL}
theorem n1_ofS {x : Nat} (hx : x < C.length) : bcn (ofS B P C x) 16 = n1 B P C x := by
  have s4 := sgl_len B
  have h1 : bcn (ofS B P C x) 16 = cnt (fun i => (colN B P C x).testBit i) (sgl B).length := by
    have := bcn_hi (m := ofS B P C x) (k := (sgl B).length) (Nat.mod_lt _ (Nat.two_pow_pos _)) (16 - (sgl B).length)
    rw [show (sgl B).length + (16 - (sgl B).length) = 16 by omega] at this
    rw [this]
    exact cnt_congr _ (fun i hi => ofS_bit hi)
  have h2 : n1 B P C x = cnt (fun s => decide (s ∈ sgl B) && (colN B P C x).testBit ((sgl B).idxOf s)) 4 := by
    unfold n1
    have := bcn_hi (m := sg4 B P C x) (k := 4) (sg4_lt B P C x) 12
    rw [this]
    refine cnt_congr _ (fun s hs => ?_)
    show (sg4 B P C x).testBit s = _
    unfold sg4
    rw [nms_bit, decide_eq_true hs, sgX_bit, decide_eq_true hx]; rfl
  rw [h1, h2]
  exact (cnt_slk (sgB B) (colN B P C x) 4 (by omega)).symm
end TH

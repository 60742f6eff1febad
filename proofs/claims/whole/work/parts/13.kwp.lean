section KH1
theorem kpi_sp {st : List Value} {F : Int32 → List Value → Prop} (h : kpi st F) : ∃ x s', st = .int x :: s' ∧ F x s' := by
  unfold kpi at h
  split at h
  · exact ⟨_, _, rfl, h⟩
  · exact h.elim
theorem kpl_sp {st : List Value} {F : Int64 → List Value → Prop} (h : kpl st F) : ∃ x s', st = .long x :: s' ∧ F x s' := by
  unfold kpl at h
  split at h
  · exact ⟨_, _, rfl, h⟩
  · exact h.elim
theorem kpr_sp {st : List Value} {F : Nat → List Value → Prop} (h : kpr st F) : ∃ x s', st = .ref x :: s' ∧ F x s' := by
  unfold kpr at h
  split at h
  · exact ⟨_, _, rfl, h⟩
  · exact h.elim
theorem kpa_sp {st : List Value} {F : Value → List Value → Prop} (h : kpa st F) : ∃ v s', st = v :: s' ∧ ((∃ a, v = .ref a) ∨ v = .null) ∧ F v s' := by
  unfold kpa at h
  split at h
  · exact ⟨_, _, rfl, Or.inl ⟨_, rfl⟩, h⟩
  · exact ⟨_, _, rfl, Or.inr rfl, h⟩
  · exact h.elim
theorem kpv_sp {st : List Value} {F : Value → List Value → Prop} (h : kpv st F) : ∃ v s', st = v :: s' ∧ v.category = 1 ∧ F v s' := by
  unfold kpv at h
  split at h
  · exact ⟨_, _, rfl, rfl, h⟩
  · exact ⟨_, _, rfl, rfl, h⟩
  · exact ⟨_, _, rfl, rfl, h⟩
  · exact h.elim
theorem kldi_sp {ls : List (Option Value)} {k : Nat} {F : Int32 → Prop} (h : kldi ls k F) : ∃ x, ls[k]? = some (some (.int x)) ∧ F x := by
  unfold kldi at h
  split at h
  · rename_i x hx
    exact ⟨_, hx, h⟩
  · exact h.elim
theorem kldl_sp {ls : List (Option Value)} {k : Nat} {F : Int64 → Prop} (h : kldl ls k F) : ∃ x, ls[k]? = some (some (.long x)) ∧ F x := by
  unfold kldl at h
  split at h
  · rename_i x hx
    exact ⟨_, hx, h⟩
  · exact h.elim
theorem klda_sp {ls : List (Option Value)} {k : Nat} {F : Value → Prop} (h : klda ls k F) : ∃ v, ls[k]? = some (some v) ∧ ((∃ a, v = .ref a) ∨ v = .null) ∧ F v := by
  unfold klda at h
  split at h
  · rename_i x hx
    exact ⟨_, hx, Or.inl ⟨_, rfl⟩, h⟩
  · rename_i hx
    exact ⟨_, hx, Or.inr rfl, h⟩
  · exact h.elim
theorem kargs_sp : ∀ {n : Nat} {acc st : List Value} {F : List Value → List Value → Prop}, kargs n acc st F → ∃ as s', as.length = n ∧ st = as.reverse ++ s' ∧ F (as ++ acc) s'
  | 0, acc, st, F, h => ⟨[], st, rfl, rfl, h⟩
  | n + 1, acc, [], F, h => h.elim
  | n + 1, acc, v :: st, F, h => by
    obtain ⟨as, s', h1, h2, h3⟩ := kargs_sp (n := n) h
    exact ⟨as ++ [v], s', by simp [h1], by simp [h2], by simpa using h3⟩
variable {r : Nat} {M : KM} {Q : KO → KH → Prop}
/-- what the walk further on gives -/
def kGoOk (r : Nat) (M : KM) (Q : KO → KH → Prop) (go : KB → List (Option Value) → List Value → KH → Prop) : Prop := ∀ (i : KI) (rest : KB) (ls : List (Option Value)) (st : List Value) (h : KH), kokB M (i :: rest) = true → go (i :: rest) ls st h → kRun r M i.1 ls st h Q
variable {go : KB → List (Option Value) → List Value → KH → Prop} {ls : List (Option Value)} {st : List Value} {h : KH}
theorem kto_sp (hok : kok M = true) (hgo : kGoOk r M Q go) {pc : Nat} (hh : khead M pc = true) (H : kto r M Q go pc ls st h) : kRun r M pc ls st h Q := by
  unfold kto at H
  simp only [kok, Bool.and_eq_true, decide_eq_true_eq] at hok
  split at H
  · rename_i q blk hf
    have hm := List.mem_of_find?_eq_some hf
    have hb := List.all_eq_true.mp hok.1.1.2 _ hm
    unfold khead at hh
    rw [hf] at hh
    cases blk with
    | nil => cases hh
    | cons i rest =>
      have e1 : i.1 = pc := by simpa using hh
      have := hgo i rest ls st h hb H
      rwa [e1] at this
  · exact H
theorem kgo_sp (hgo : kGoOk r M Q go) {i : KI} {rest : KB} (hb : kokB M (i :: rest) = true) (hne : ∀ ls st h, ¬ go [] ls st h) (H : go rest ls st h) : kRun r M (i.1 + i.2.1) ls st h Q := by
  cases rest with
  | nil => exact absurd H (hne _ _ _)
  | cons j rest =>
    simp only [kokB, Bool.and_eq_true, decide_eq_true_eq] at hb
    have := hgo j rest ls st h (by simp only [kokB, Bool.and_eq_true]; exact hb.2) H
    rwa [hb.1.2] at this
end KH1

/-! the world's list and its changes -/
theorem kwld_get {cA : Nat → ClassId} {ad : Nat → Nat} {h : KH} {a : Nat} (h1 : 1 ≤ a) (h2 : a ≤ kN h) : (kwld cA ad h)[a - 1]? = some (ad a, kcell cA ad h a) := by
  have h3 : a - 1 < kN h := by omega
  have h4 : a - 1 + 1 = a := by omega
  simp [kwld, List.getElem?_map, List.getElem?_range h3, h4]
theorem kwld_none {cA : Nat → ClassId} {ad : Nat → Nat} {h : KH} {k : Nat} (h2 : kN h ≤ k) : (kwld cA ad h)[k]? = none := by
  simp [kwld, h2]
theorem kwld_len {cA : Nat → ClassId} {ad : Nat → Nat} {h : KH} : (kwld cA ad h).length = kN h := by simp [kwld]
theorem kwld_at {cA : Nat → ClassId} {ad : Nat → Nat} {h : KH} {k : Nat} {q : Nat × va_E} (hq : (kwld cA ad h)[k]? = some q) : k < kN h ∧ q = (ad (k + 1), kcell cA ad h (k + 1)) := by
  have hk : k < kN h := by
    have := (List.getElem?_eq_some_iff.mp hq).1
    rwa [kwld_len] at this
  have h2 := kwld_get (cA := cA) (ad := ad) (h := h) (a := k + 1) (by omega) (by omega)
  rw [Nat.add_sub_cancel, hq] at h2
  exact ⟨hk, Option.some.inj h2⟩
theorem kwld_set {cA : Nat → ClassId} {ad : Nat → Nat} {h h' : KH} {a : Nat} {e : va_E} (hN : kN h' = kN h) (h1 : 1 ≤ a) (h2 : a ≤ kN h) (he : e = kcell cA ad h' a) (ho : ∀ b, b ≠ a → kcell cA ad h' b = kcell cA ad h b) : (kwld cA ad h).set (a - 1) (ad a, e) = kwld cA ad h' := by
  subst he
  apply List.ext_getElem?
  intro k
  by_cases hk : k < kN h
  · by_cases hka : k = a - 1
    · subst hka
      rw [List.getElem?_set_self (by rw [kwld_len]; exact hk), kwld_get h1 (by rw [hN]; exact h2)]
    · rw [List.getElem?_set_ne (Ne.symm hka)]
      have e1 := kwld_get (cA := cA) (ad := ad) (h := h) (a := k + 1) (by omega) (by omega)
      have e2 := kwld_get (cA := cA) (ad := ad) (h := h') (a := k + 1) (by omega) (by omega)
      rw [Nat.add_sub_cancel] at e1 e2
      rw [e1, e2, ho (k + 1) (by omega)]
  · rw [List.getElem?_eq_none (by rw [List.length_set, kwld_len]; omega), kwld_none (by omega)]
theorem kcell_0 {cA : Nat → ClassId} {ad : Nat → Nat} {h : KH} {a ci : Nat} (hk : kK h a = (0, ci)) : kcell cA ad h a = .inr (ci, kfl ad h a ci) := by simp [kcell, hk]
theorem kcell_1 {cA : Nat → ClassId} {ad : Nat → Nat} {h : KH} {a : Nat} (hk : (kK h a).1 = 1) : kcell cA ad h a = .inl (cA 1, (kK h a).2, .inl (kI h a)) := by simp [kcell, hk]
theorem kcell_2 {cA : Nat → ClassId} {ad : Nat → Nat} {h : KH} {a : Nat} (hk : (kK h a).1 = 2) : kcell cA ad h a = .inl (cA 2, (kK h a).2, .inr (.inl (kL h a))) := by simp [kcell, hk]
theorem kcell_3 {cA : Nat → ClassId} {ad : Nat → Nat} {h : KH} {a : Nat} (hk : (kK h a).1 = 3) : kcell cA ad h a = .inl (cA 3, (kK h a).2, .inl (kI h a)) := by simp [kcell, hk]
theorem kcell_4 {cA : Nat → ClassId} {ad : Nat → Nat} {h : KH} {a : Nat} (hk : (kK h a).1 = 4) : kcell cA ad h a = .inl (cA 4, (kK h a).2, .inl (kI h a)) := by simp [kcell, hk]
theorem kfl_get {ad : Nat → Nat} {h : KH} {a ci j : Nat} (hj : j < knf ci) : (kfl ad h a ci)[j]? = some (kfv ad h a j (ktagOf (kty ci j))) := by
  simp [kfl, List.getElem?_map, List.getElem?_range hj]
theorem kfl_len {ad : Nat → Nat} {h : KH} {a ci : Nat} : (kfl ad h a ci).length = knf ci := by simp [kfl]
theorem kfl_set {ad : Nat → Nat} {h h' : KH} {a ci j : Nat} {v : Value} (hj : j < knf ci) (hv : kfv ad h' a j (ktagOf (kty ci j)) = v) (ho : ∀ i t, i ≠ j → kfv ad h' a i t = kfv ad h a i t) : (kfl ad h a ci).set j v = kfl ad h' a ci := by
  apply List.ext_getElem?
  intro k
  by_cases hk : k < knf ci
  · by_cases hkj : k = j
    · subst hkj
      rw [List.getElem?_set_self (by rw [kfl_len]; exact hk), kfl_get hk, hv]
    · rw [List.getElem?_set_ne (Ne.symm hkj), kfl_get hk, kfl_get hk, ho k _ hkj]
  · rw [List.getElem?_eq_none (by rw [List.length_set, kfl_len]; omega), List.getElem?_eq_none (by rw [kfl_len]; omega)]
/-- reads behind writes -/
theorem kI_sI (h : KH) (a j : Nat) (v : Int32) (b : Nat) : kI (sI h a j v) b = if b = a then upd (kI h a) j v else kI h b := rfl
theorem kL_sI (h : KH) (a j : Nat) (v : Int32) : kL (sI h a j v) = kL h := rfl
theorem kR_sI (h : KH) (a j : Nat) (v : Int32) : kR (sI h a j v) = kR h := rfl
theorem kK_sI (h : KH) (a j : Nat) (v : Int32) : kK (sI h a j v) = kK h := rfl
theorem kN_sI (h : KH) (a j : Nat) (v : Int32) : kN (sI h a j v) = kN h := rfl
theorem kC_sI (h : KH) (a j : Nat) (v : Int32) : kC (sI h a j v) = kC h := rfl
theorem kS_sI (h : KH) (a j : Nat) (v : Int32) : kS (sI h a j v) = kS h := rfl
theorem kI_sL (h : KH) (a j : Nat) (v : Int64) : kI (sL h a j v) = kI h := rfl
theorem kL_sL (h : KH) (a j : Nat) (v : Int64) (b : Nat) : kL (sL h a j v) b = if b = a then vp_updL (kL h a) j v else kL h b := rfl
theorem kR_sL (h : KH) (a j : Nat) (v : Int64) : kR (sL h a j v) = kR h := rfl
theorem kK_sL (h : KH) (a j : Nat) (v : Int64) : kK (sL h a j v) = kK h := rfl
theorem kN_sL (h : KH) (a j : Nat) (v : Int64) : kN (sL h a j v) = kN h := rfl
theorem kC_sL (h : KH) (a j : Nat) (v : Int64) : kC (sL h a j v) = kC h := rfl
theorem kS_sL (h : KH) (a j : Nat) (v : Int64) : kS (sL h a j v) = kS h := rfl
theorem kI_sR (h : KH) (a j v : Nat) : kI (sR h a j v) = kI h := rfl
theorem kL_sR (h : KH) (a j v : Nat) : kL (sR h a j v) = kL h := rfl
theorem kR_sR (h : KH) (a j v : Nat) (b : Nat) : kR (sR h a j v) b = if b = a then va_up (kR h a) j v else kR h b := rfl
theorem kK_sR (h : KH) (a j v : Nat) : kK (sR h a j v) = kK h := rfl
theorem kN_sR (h : KH) (a j v : Nat) : kN (sR h a j v) = kN h := rfl
theorem kC_sR (h : KH) (a j v : Nat) : kC (sR h a j v) = kC h := rfl
theorem kS_sR (h : KH) (a j v : Nat) : kS (sR h a j v) = kS h := rfl
theorem kI_new (h : KH) (kd : Nat × Nat) (n b : Nat) : kI (knew h kd n) b = if b = kN h + 1 then (fun _ => 0) else kI h b := rfl
theorem kL_new (h : KH) (kd : Nat × Nat) (n b : Nat) : kL (knew h kd n) b = if b = kN h + 1 then (fun _ => 0) else kL h b := rfl
theorem kR_new (h : KH) (kd : Nat × Nat) (n b : Nat) : kR (knew h kd n) b = if b = kN h + 1 then (fun _ => 0) else kR h b := rfl
theorem kK_new (h : KH) (kd : Nat × Nat) (n b : Nat) : kK (knew h kd n) b = if b = kN h + 1 then kd else kK h b := rfl
theorem kN_new (h : KH) (kd : Nat × Nat) (n : Nat) : kN (knew h kd n) = kN h + 1 := rfl
theorem kC_new (h : KH) (kd : Nat × Nat) (n : Nat) : kC (knew h kd n) = kC h + 1 := rfl
theorem kS_new (h : KH) (kd : Nat × Nat) (n : Nat) : kS (knew h kd n) = kS h + n := rfl
theorem kI_exc (h : KH) : kI (kexc h) = kI h := rfl
theorem kL_exc (h : KH) : kL (kexc h) = kL h := rfl
theorem kR_exc (h : KH) : kR (kexc h) = kR h := rfl
theorem kK_exc (h : KH) : kK (kexc h) = kK h := rfl
theorem kN_exc (h : KH) : kN (kexc h) = kN h := rfl
theorem kC_exc (h : KH) : kC (kexc h) = kC h + 1 := rfl
theorem kS_exc (h : KH) : kS (kexc h) = kS h + 6 := rfl
theorem kup_rf (h : KH) : kup h h := ⟨Nat.le_refl _, Nat.le_refl _, Nat.le_refl _⟩
theorem kup_tr {h1 h2 h3 : KH} (a : kup h1 h2) (b : kup h2 h3) : kup h1 h3 := ⟨Nat.le_trans a.1 b.1, Nat.le_trans a.2.1 b.2.1, Nat.le_trans a.2.2 b.2.2⟩
theorem kext_rf (n : Nat) (ad : Nat → Nat) : kext n ad ad := fun _ _ => rfl
theorem kext_tr {n m : Nat} {a1 a2 a3 : Nat → Nat} (h1 : kext n a1 a2) (hn : n ≤ m) (h2 : kext m a2 a3) : kext n a1 a3 := fun k hk => (h2 k (Nat.le_trans hk hn)).trans (h1 k hk)
theorem ktr_ext {n b : Nat} {ad ad' : Nat → Nat} {v : Value} (hv : kvl n v) (he : kext n ad ad') : ktr b ad' v = ktr b ad v := by
  cases v with
  | ref k => simp only [ktr, he k hv.2]
  | _ => rfl
theorem ktr_map {n b : Nat} {ad ad' : Nat → Nat} {vs : List Value} (hv : ∀ v ∈ vs, kvl n v) (he : kext n ad ad') : vs.map (ktr b ad') = vs.map (ktr b ad) := List.map_congr_left (fun v h => ktr_ext (hv v h) he)
theorem kvl_mono {n m : Nat} {v : Value} (h : kvl n v) (hn : n ≤ m) : kvl m v := by
  cases v <;> first | exact h | exact ⟨h.1, Nat.le_trans h.2 hn⟩
/-- cells of other labels, behind a write that leaves them -/
theorem kcell_same {cA : Nat → ClassId} {ad ad' : Nat → Nat} {h h' : KH} {b : Nat} (hI : kI h' b = kI h b) (hL : kL h' b = kL h b) (hR : kR h' b = kR h b) (hK : kK h' b = kK h b) (hr : ∀ j, krv ad' (kR h b j) = krv ad (kR h b j)) : kcell cA ad' h' b = kcell cA ad h b := by
  have hf : ∀ ci, kfl ad' h' b ci = kfl ad h b ci := by
    intro ci
    simp only [kfl]
    apply List.map_congr_left
    intro j _
    simp only [kfv, hI, hL, hR, hr]
  simp only [kcell, hK, hI, hL, hf]
theorem kls_mem {b : Nat} {ad : Nat → Nat} {ls : List (Option Value)} {q : Nat × Value} : q ∈ kls b ad ls ↔ ∃ v, ls[q.1]? = some (some v) ∧ q.2 = ktr b ad v := by
  obtain ⟨i, u⟩ := q
  simp only [kls, List.mem_filterMap, List.mem_range]
  constructor
  · rintro ⟨j, hj, h⟩
    cases hl : ls[j]? with
    | none => rw [hl] at h; cases h
    | some o =>
      cases o with
      | none => rw [hl] at h; cases h
      | some v =>
        rw [hl] at h
        simp only [Option.some.injEq, Prod.mk.injEq] at h
        obtain ⟨rfl, rfl⟩ := h
        exact ⟨v, hl, rfl⟩
  · rintro ⟨v, h1, h2⟩
    refine ⟨i, (List.getElem?_eq_some_iff.mp h1).1, ?_⟩
    rw [h1, h2]
theorem kls_ext {n b : Nat} {ad ad' : Nat → Nat} {ls : List (Option Value)} (hv : ∀ (i : Nat) (v : Value), ls[i]? = some (some v) → kvl n v) (he : kext n ad ad') : kls b ad' ls = kls b ad ls := by
  unfold kls
  congr 1
  funext i
  cases hl : ls[i]? with
  | none => rfl
  | some o =>
    cases o with
    | none => rfl
    | some v => simp only [ktr_ext (hv i v hl) he]

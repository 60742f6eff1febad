section KS2
variable {r : Nat} {M : KM} {pc : Nat} {ls : List (Option Value)} {st : List Value} {h : KH}
theorem kg_tableIn {x : Int32} {d0 lo hi : Int} {offs : Array Int} {len : Nat} {off : Int} {tgt : Nat} (d : decode (kby M) pc = .ok (.tableswitch d0 lo hi offs, len)) (h1 : ¬ x.toInt < lo) (h2 : ¬ hi < x.toInt) (ho : offs[(x.toInt - lo).toNat]? = some off) (ht : (pc : Int) + off = (tgt : Int)) : kGo r M pc ls (.int x :: st) h tgt ls st h := by
  refine kGo_stk (fun h1 _ => kv_tl h1) ?_
  intro p l e R s m args below meth c H locs cells slots A D cA b L xs ad jls Q S Dy k
  obtain ⟨hx, hb, -, hown, hts, -⟩ := S
  exact lv_tableIn hx hb d h1 h2 ho ht k
theorem kg_tableOut {x : Int32} {d0 lo hi : Int} {offs : Array Int} {len : Nat} {tgt : Nat} (d : decode (kby M) pc = .ok (.tableswitch d0 lo hi offs, len)) (h1 : x.toInt < lo ∨ hi < x.toInt) (ht : (pc : Int) + d0 = (tgt : Int)) : kGo r M pc ls (.int x :: st) h tgt ls st h := by
  refine kGo_stk (fun h1 _ => kv_tl h1) ?_
  intro p l e R s m args below meth c H locs cells slots A D cA b L xs ad jls Q S Dy k
  obtain ⟨hx, hb, -, hown, hts, -⟩ := S
  exact lv_tableOut hx hb d h1 ht k
/-! stores into locals -/
theorem kcl_len (ls : List (Option Value)) (k : Nat) : (kcl ls k).length = ls.length := by
  cases k with
  | zero => rfl
  | succ k =>
    simp only [kcl]
    split <;> simp
theorem kcl_get {ls : List (Option Value)} {k i : Nat} {v : Value} (hv : (kcl ls k)[i]? = some (some v)) (hi : i ≠ k) : ls[i]? = some (some v) ∧ ¬ (i + 1 = k ∧ v.category = 2 ∧ (∃ x, v = .long x)) := by
  cases k with
  | zero => exact ⟨hv, fun q => by omega⟩
  | succ k =>
    simp only [kcl] at hv
    split at hv
    · rename_i x hx
      by_cases hik : i = k
      · subst hik
        rw [List.getElem?_set_self (List.getElem?_eq_some_iff.mp hx).1] at hv
        cases hv
      · rw [List.getElem?_set_ne (Ne.symm hik)] at hv
        exact ⟨hv, fun q => by omega⟩
    · rename_i hx
      refine ⟨hv, fun q => ?_⟩
      obtain ⟨q1, -, x, rfl⟩ := q
      have : i = k := by omega
      subst this
      exact hx x hv
theorem kst1_get {ls : List (Option Value)} {k i : Nat} {v u : Value} (hk : k < ls.length) (hv : (kst1 ls k u)[i]? = some (some v)) : (i = k ∧ v = u) ∨ (i ≠ k ∧ ls[i]? = some (some v) ∧ ¬ (i + 1 = k ∧ ∃ x, v = .long x)) := by
  by_cases hi : i = k
  · subst hi
    rw [kst1, List.getElem?_set_self (by rw [kcl_len]; exact hk)] at hv
    cases hv
    exact Or.inl ⟨rfl, rfl⟩
  · rw [kst1, List.getElem?_set_ne (Ne.symm hi)] at hv
    obtain ⟨h1, h2⟩ := kcl_get hv hi
    refine Or.inr ⟨hi, h1, fun q => h2 ⟨q.1, ?_, q.2⟩⟩
    obtain ⟨-, x, rfl⟩ := q
    rfl
theorem kst2_get {ls : List (Option Value)} {k i : Nat} {v : Value} {u : Int64} (hk : k + 1 < ls.length) (hv : (kst2 ls k u)[i]? = some (some v)) : (i = k ∧ v = .long u) ∨ (i ≠ k ∧ i ≠ k + 1 ∧ ls[i]? = some (some v) ∧ ¬ (i + 1 = k ∧ ∃ x, v = .long x)) := by
  by_cases hi2 : i = k + 1
  · subst hi2
    rw [kst2, List.getElem?_set_self (by rw [List.length_set, kcl_len]; exact hk)] at hv
    cases hv
  · rw [kst2, List.getElem?_set_ne (Ne.symm hi2)] at hv
    rcases kst1_get (u := .long u) (by omega) hv with h1 | h1
    · exact Or.inl h1
    · exact Or.inr ⟨h1.1, hi2, h1.2.1, h1.2.2⟩
theorem kcatL {b : Nat} {ad : Nat → Nat} {n : Nat} {v : Value} (hv : kvl n v) (hc : (ktr b ad v).category = 2) : ∃ x, v = .long x := by
  cases v with
  | long x => exact ⟨x, rfl⟩
  | int x => cases hc
  | ref x => cases hc
  | null => cases hc
  | _ => exact absurd hv id
theorem kls_st1 {b : Nat} {ad : Nat → Nat} {ls : List (Option Value)} {k n nL : Nat} {u : Value} {jls : Array Slot} (hk : k < ls.length) (hv : ∀ (i : Nat) (v : Value), ls[i]? = some (some v) → kvl n v)
    (hl : lv_has jls nL ((k, ktr b ad u) :: (kls b ad ls).filter (fun q => !(q.1 == k) && !(q.1 + 1 == k && q.2.category == 2)))) : lv_has jls nL (kls b ad (kst1 ls k u)) := by
  refine ⟨hl.1, hl.2.1, fun q hq => hl.2.2 q ?_⟩
  obtain ⟨v, h1, h2⟩ := kls_mem.mp hq
  obtain ⟨i, w⟩ := q
  simp only at h1 h2
  subst h2
  rcases kst1_get hk h1 with ⟨rfl, rfl⟩ | ⟨q1, q2, q3⟩
  · exact List.mem_cons_self
  · refine List.mem_cons_of_mem _ (List.mem_filter.mpr ⟨kls_mem.mpr ⟨v, q2, rfl⟩, ?_⟩)
    simp only [Bool.and_eq_true, Bool.not_eq_true', beq_eq_false_iff_ne, ne_eq, Bool.and_eq_false_imp, beq_iff_eq]
    exact ⟨q1, fun e1 e2 => q3 ⟨e1, kcatL (hv _ _ q2) e2⟩⟩
theorem kls_st2 {b : Nat} {ad : Nat → Nat} {ls : List (Option Value)} {k n nL : Nat} {u : Int64} {jls : Array Slot} (hk : k + 1 < ls.length) (hv : ∀ (i : Nat) (v : Value), ls[i]? = some (some v) → kvl n v)
    (hl : lv_has jls nL ((k, .long u) :: (kls b ad ls).filter (fun q => !(q.1 == k) && (!(q.1 == k + 1) && !(q.1 + 1 == k && q.2.category == 2))))) : lv_has jls nL (kls b ad (kst2 ls k u)) := by
  refine ⟨hl.1, hl.2.1, fun q hq => hl.2.2 q ?_⟩
  obtain ⟨v, h1, h2⟩ := kls_mem.mp hq
  obtain ⟨i, w⟩ := q
  simp only at h1 h2
  subst h2
  rcases kst2_get hk h1 with ⟨rfl, rfl⟩ | ⟨q1, q0, q2, q3⟩
  · exact List.mem_cons_self
  · refine List.mem_cons_of_mem _ (List.mem_filter.mpr ⟨kls_mem.mpr ⟨v, q2, rfl⟩, ?_⟩)
    simp only [Bool.and_eq_true, Bool.not_eq_true', beq_eq_false_iff_ne, ne_eq, Bool.and_eq_false_imp, beq_iff_eq]
    exact ⟨q1, q0, fun e1 e2 => q3 ⟨e1, kcatL (hv _ _ q2) e2⟩⟩
theorem kst1_len (ls : List (Option Value)) (k : Nat) (u : Value) : (kst1 ls k u).length = ls.length := by simp [kst1, kcl_len]
theorem kst2_len (ls : List (Option Value)) (k : Nat) (u : Int64) : (kst2 ls k u).length = ls.length := by simp [kst2, kcl_len]
theorem kDy_st1 {s : State} {A : Nat → Prop} {D : va_G} {cA : Nat → ClassId} {b L : Nat} {xs : Nat → Int32} {ad : Nat → Nat} {st2 : List Value} {H : Heap} {locs : List Loc} {jls jls2 : Array Slot} {k : Nat} {u : Value} (d : kDy M s A D cA b L xs ad h ls st H locs jls) (hs : ∀ v ∈ st2, kvl (kN h) v) (hu : kvl (kN h) u) (hk : k < kml M)
    (hl : lv_has jls2 (kml M) ((k, ktr b ad u) :: (kls b ad ls).filter (fun q => !(q.1 == k) && !(q.1 + 1 == k && q.2.category == 2)))) : kDy M s A D cA b L xs ad h (kst1 ls k u) st2 H locs jls2 := by
  obtain ⟨d1, d2, d3, d4, d5, d6, d7, d8⟩ := d
  refine ⟨d1, d2, d3, by rw [kst1_len, d4], kls_st1 (by omega) d7 hl, d6, fun i v hv => ?_, hs⟩
  rcases kst1_get (by omega) hv with ⟨-, rfl⟩ | ⟨-, q, -⟩
  · exact hu
  · exact d7 i v q
theorem kDy_st2 {s : State} {A : Nat → Prop} {D : va_G} {cA : Nat → ClassId} {b L : Nat} {xs : Nat → Int32} {ad : Nat → Nat} {st2 : List Value} {H : Heap} {locs : List Loc} {jls jls2 : Array Slot} {k : Nat} {u : Int64} (d : kDy M s A D cA b L xs ad h ls st H locs jls) (hs : ∀ v ∈ st2, kvl (kN h) v) (hk : k + 1 < kml M)
    (hl : lv_has jls2 (kml M) ((k, .long u) :: (kls b ad ls).filter (fun q => !(q.1 == k) && (!(q.1 == k + 1) && !(q.1 + 1 == k && q.2.category == 2))))) : kDy M s A D cA b L xs ad h (kst2 ls k u) st2 H locs jls2 := by
  obtain ⟨d1, d2, d3, d4, d5, d6, d7, d8⟩ := d
  refine ⟨d1, d2, d3, by rw [kst2_len, d4], kls_st2 (by omega) d7 hl, d6, fun i v hv => ?_, hs⟩
  rcases kst2_get (by omega) hv with ⟨-, rfl⟩ | ⟨-, -, q, -⟩
  · trivial
  · exact d7 i v q
theorem kg_istore {k : Nat} {x : Int32} (d : decode (kby M) pc = .ok (.istore k, 2)) (hk : k < kml M) : kGo r M pc ls (.int x :: st) h (pc + 2) (kst1 ls k (.int x)) st h := by
  refine ⟨kup_rf h, ?_⟩
  intro p l e R s m args below meth c H locs cells slots A D cA b L xs ad jls c0 s0 Q S Dy hc hs hC hS kk
  obtain ⟨hx, hb, -, hown, hts, -⟩ := S
  have hst := Dy.2.2.2.2.2.2.2
  have hls := Dy.2.2.2.2.2.2.1
  exact lv_istore hx hb d Dy.2.2.2.2.1 hk rfl (fun jls2 hl => kk H locs jls2 ad cells slots (kDy_st1 Dy (kv_tl hst) trivial hk hl) (kext_rf _ _) hc hs)
theorem kg_lstore {k : Nat} {x : Int64} (d : decode (kby M) pc = .ok (.lstore k, 2)) (hk : k + 1 < kml M) : kGo r M pc ls (.long x :: st) h (pc + 2) (kst2 ls k x) st h := by
  refine ⟨kup_rf h, ?_⟩
  intro p l e R s m args below meth c H locs cells slots A D cA b L xs ad jls c0 s0 Q S Dy hc hs hC hS kk
  obtain ⟨hx, hb, -, hown, hts, -⟩ := S
  have hst := Dy.2.2.2.2.2.2.2
  have hls := Dy.2.2.2.2.2.2.1
  exact lv_lstore hx hb d Dy.2.2.2.2.1 hk rfl (fun jls2 hl => kk H locs jls2 ad cells slots (kDy_st2 Dy (kv_tl hst) hk hl) (kext_rf _ _) hc hs)
theorem kg_astore {k : Nat} {v : Value} (d : decode (kby M) pc = .ok (.astore k, 2)) (hk : k < kml M) (hv : (∃ a, v = .ref a) ∨ v = .null) : kGo r M pc ls (v :: st) h (pc + 2) (kst1 ls k v) st h := by
  refine ⟨kup_rf h, ?_⟩
  intro p l e R s m args below meth c H locs cells slots A D cA b L xs ad jls c0 s0 Q S Dy hc hs hC hS kk
  obtain ⟨hx, hb, -, hown, hts, -⟩ := S
  have hst := Dy.2.2.2.2.2.2.2
  have hls := Dy.2.2.2.2.2.2.1
  rcases hv with ⟨a, rfl⟩ | rfl
  · exact lv_astore hx hb d Dy.2.2.2.2.1 hk rfl (fun jls2 hl => kk H locs jls2 ad cells slots (kDy_st1 Dy (kv_tl hst) (kv_hd hst) hk hl) (kext_rf _ _) hc hs)
  · exact lv_astore hx hb d Dy.2.2.2.2.1 hk rfl (fun jls2 hl => kk H locs jls2 ad cells slots (kDy_st1 Dy (kv_tl hst) trivial hk hl) (kext_rf _ _) hc hs)
theorem kg_istore_n {k : Fin 4} {x : Int32} (d : decode (kby M) pc = .ok (.istore_n k, 1)) (hk : k.val < kml M) : kGo r M pc ls (.int x :: st) h (pc + 1) (kst1 ls k.val (.int x)) st h := by
  refine ⟨kup_rf h, ?_⟩
  intro p l e R s m args below meth c H locs cells slots A D cA b L xs ad jls c0 s0 Q S Dy hc hs hC hS kk
  obtain ⟨hx, hb, -, hown, hts, -⟩ := S
  have hst := Dy.2.2.2.2.2.2.2
  have hls := Dy.2.2.2.2.2.2.1
  exact lv_istore_n hx hb d rfl Dy.2.2.2.2.1 hk rfl (fun jls2 hl => kk H locs jls2 ad cells slots (kDy_st1 Dy (kv_tl hst) trivial hk hl) (kext_rf _ _) hc hs)
theorem kg_lstore_n {k : Fin 4} {x : Int64} (d : decode (kby M) pc = .ok (.lstore_n k, 1)) (hk : k.val + 1 < kml M) : kGo r M pc ls (.long x :: st) h (pc + 1) (kst2 ls k.val x) st h := by
  refine ⟨kup_rf h, ?_⟩
  intro p l e R s m args below meth c H locs cells slots A D cA b L xs ad jls c0 s0 Q S Dy hc hs hC hS kk
  obtain ⟨hx, hb, -, hown, hts, -⟩ := S
  have hst := Dy.2.2.2.2.2.2.2
  have hls := Dy.2.2.2.2.2.2.1
  exact lv_lstore_n hx hb d rfl Dy.2.2.2.2.1 hk rfl (fun jls2 hl => kk H locs jls2 ad cells slots (kDy_st2 Dy (kv_tl hst) hk hl) (kext_rf _ _) hc hs)
theorem kg_astore_n {k : Fin 4} {v : Value} (d : decode (kby M) pc = .ok (.astore_n k, 1)) (hk : k.val < kml M) (hv : (∃ a, v = .ref a) ∨ v = .null) : kGo r M pc ls (v :: st) h (pc + 1) (kst1 ls k.val v) st h := by
  refine ⟨kup_rf h, ?_⟩
  intro p l e R s m args below meth c H locs cells slots A D cA b L xs ad jls c0 s0 Q S Dy hc hs hC hS kk
  obtain ⟨hx, hb, -, hown, hts, -⟩ := S
  have hst := Dy.2.2.2.2.2.2.2
  have hls := Dy.2.2.2.2.2.2.1
  rcases hv with ⟨a, rfl⟩ | rfl
  · exact lv_astore_n hx hb d rfl Dy.2.2.2.2.1 hk rfl (fun jls2 hl => kk H locs jls2 ad cells slots (kDy_st1 Dy (kv_tl hst) (kv_hd hst) hk hl) (kext_rf _ _) hc hs)
  · exact lv_astore_n hx hb d rfl Dy.2.2.2.2.1 hk rfl (fun jls2 hl => kk H locs jls2 ad cells slots (kDy_st1 Dy (kv_tl hst) trivial hk hl) (kext_rf _ _) hc hs)
theorem kg_iinc {k : Nat} {n : Int} {x v : Int32} (d : decode (kby M) pc = .ok (.iinc k n, 3)) (hk : k < kml M) (hl : ls[k]? = some (some (.int x))) (hn : Int32.ofInt n = v) : kGo r M pc ls st h (pc + 3) (kst1 ls k (.int (x + v))) st h := by
  refine ⟨kup_rf h, ?_⟩
  intro p l e R s m args below meth c H locs cells slots A D cA b L xs ad jls c0 s0 Q S Dy hc hs hC hS kk
  obtain ⟨hx, hb, -, hown, hts, -⟩ := S
  have hst := Dy.2.2.2.2.2.2.2
  have hls := Dy.2.2.2.2.2.2.1
  obtain ⟨i, hi⟩ := List.getElem?_of_mem (kls_mem (b := b) (ad := ad) (q := (k, .int x)) |>.mpr ⟨_, hl, rfl⟩)
  exact lv_iinc hx hb d Dy.2.2.2.2.1 hi (by rw [hn]) hk rfl (fun jls2 hl => kk H locs jls2 ad cells slots (kDy_st1 Dy hst trivial hk hl) (kext_rf _ _) hc hs)
end KS2

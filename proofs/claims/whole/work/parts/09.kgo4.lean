section KS4
variable {r : Nat} {M : KM} {pc : Nat} {ls : List (Option Value)} {st : List Value} {h : KH}
theorem ktys_at (cA : Nat → ClassId) : (ktys cA)[0]? = some (cA 1, .int) ∧ (ktys cA)[1]? = some (cA 2, .long) ∧ (ktys cA)[2]? = some (cA 3, .byte) ∧ (ktys cA)[3]? = some (cA 4, .boolean) := ⟨rfl, rfl, rfl, rfl⟩
theorem kg_iald {a : Nat} {j : Int32} (d : decode (kby M) pc = .ok (.iaload, 1)) (hk : (kK h a).1 = 1) (hj : vp_in j (kK h a).2) : kGo r M pc ls (.int j :: .ref a :: st) h (pc + 1) ls (.int (kI h a j.toNatClampNeg) :: st) h := by
  refine kGo_stk (fun h1 _ => kv_int _ (kv_tl (kv_tl h1))) ?_
  intro p l e R s m args below meth c H locs cells slots A D cA b L xs ad jls Q S Dy k
  obtain ⟨hx, hb, -, hown, hts, hE, -⟩ := S
  have ha : kvl (kN h) (.ref a) := kv_hd (kv_tl Dy.2.2.2.2.2.2.2)
  have hg := kwld_get (cA := cA) (ad := ad) ha.1 ha.2
  rw [kcell_1 hk] at hg
  exact va_iald hx hb hE.1 Dy.1 (a - 1) 0 hg (ktys_at cA).1 hj d k
theorem kg_lald {a : Nat} {j : Int32} (d : decode (kby M) pc = .ok (.laload, 1)) (hk : (kK h a).1 = 2) (hj : vp_in j (kK h a).2) : kGo r M pc ls (.int j :: .ref a :: st) h (pc + 1) ls (.long (kL h a j.toNatClampNeg) :: st) h := by
  refine kGo_stk (fun h1 _ => kv_long _ (kv_tl (kv_tl h1))) ?_
  intro p l e R s m args below meth c H locs cells slots A D cA b L xs ad jls Q S Dy k
  obtain ⟨hx, hb, -, hown, hts, hE, -⟩ := S
  have ha : kvl (kN h) (.ref a) := kv_hd (kv_tl Dy.2.2.2.2.2.2.2)
  have hg := kwld_get (cA := cA) (ad := ad) ha.1 ha.2
  rw [kcell_2 hk] at hg
  exact va_lald hx hb hE.1 Dy.1 (a - 1) 1 hg (ktys_at cA).2.1 hj d k
theorem kg_bald {a : Nat} {j : Int32} (d : decode (kby M) pc = .ok (.baload, 1)) (hk : (kK h a).1 = 3 ∨ (kK h a).1 = 4) (hj : vp_in j (kK h a).2) : kGo r M pc ls (.int j :: .ref a :: st) h (pc + 1) ls (.int (kI h a j.toNatClampNeg) :: st) h := by
  refine kGo_stk (fun h1 _ => kv_int _ (kv_tl (kv_tl h1))) ?_
  intro p l e R s m args below meth c H locs cells slots A D cA b L xs ad jls Q S Dy k
  obtain ⟨hx, hb, -, hown, hts, hE, -⟩ := S
  have ha : kvl (kN h) (.ref a) := kv_hd (kv_tl Dy.2.2.2.2.2.2.2)
  have hg := kwld_get (cA := cA) (ad := ad) ha.1 ha.2
  rcases hk with hk | hk
  · rw [kcell_3 hk] at hg
    exact va_bald hx hb hE.1 Dy.1 (a - 1) 2 hg (ktys_at cA).2.2.1 hj d k
  · rw [kcell_4 hk] at hg
    exact va_zald hx hb hE.1 Dy.1 (a - 1) 3 hg (ktys_at cA).2.2.2 hj d k
theorem kg_sld {j : Int32} (d : decode (kby M) pc = .ok (.iaload, 1)) (hj : vp_in j (kK h 0).2) : kGo r M pc ls (.int j :: .null :: st) h (pc + 1) ls (.int (kI h 0 j.toNatClampNeg) :: st) h := by
  refine kGo_stk (fun h1 _ => kv_int _ (kv_tl (kv_tl h1))) ?_
  intro p l e R s m args below meth c H locs cells slots A D cA b L xs ad jls Q S Dy k
  obtain ⟨hx, hb, -, hown, hts, hE, -⟩ := S
  obtain ⟨-, -, -, -, -, hX, hbl, hbA, -, -⟩ := hE
  obtain ⟨-, -, hS, -, -, hwf, -, -⟩ := Dy
  have e1 : (kK h 0).2 = L := by rw [hwf.2.1]
  rw [e1] at hj
  have e2 : kI h 0 j.toNatClampNeg = xs j.toNatClampNeg := by rw [hwf.2.2]
  rw [e2] at k
  exact va_sld hx hb hX hbl hbA hS hj d k
theorem kg_alen {a : Nat} (d : decode (kby M) pc = .ok (.arraylength, 1)) (hk : 1 ≤ (kK h a).1 ∧ (kK h a).1 ≤ 4) : kGo r M pc ls (.ref a :: st) h (pc + 1) ls (.int (nI (kK h a).2) :: st) h := by
  refine kGo_stk (fun h1 _ => kv_int _ (kv_tl h1)) ?_
  intro p l e R s m args below meth c H locs cells slots A D cA b L xs ad jls Q S Dy k
  obtain ⟨hx, hb, -, hown, hts, hE, -⟩ := S
  have ha : kvl (kN h) (.ref a) := kv_hd Dy.2.2.2.2.2.2.2
  have hg := kwld_get (cA := cA) (ad := ad) ha.1 ha.2
  rcases (show (kK h a).1 = 1 ∨ (kK h a).1 = 2 ∨ (kK h a).1 = 3 ∨ (kK h a).1 = 4 by omega) with hk | hk | hk | hk
  · rw [kcell_1 hk] at hg
    exact va_alen hx hb hE.1 Dy.1 (a - 1) 0 hg (ktys_at cA).1 rfl d k
  · rw [kcell_2 hk] at hg
    exact va_alen hx hb hE.1 Dy.1 (a - 1) 1 hg (ktys_at cA).2.1 rfl d k
  · rw [kcell_3 hk] at hg
    exact va_alen hx hb hE.1 Dy.1 (a - 1) 2 hg (ktys_at cA).2.2.1 rfl d k
  · rw [kcell_4 hk] at hg
    exact va_alen hx hb hE.1 Dy.1 (a - 1) 3 hg (ktys_at cA).2.2.2 rfl d k
theorem kg_slen (d : decode (kby M) pc = .ok (.arraylength, 1)) : kGo r M pc ls (.null :: st) h (pc + 1) ls (.int (nI (kK h 0).2) :: st) h := by
  refine kGo_stk (fun h1 _ => kv_int _ (kv_tl h1)) ?_
  intro p l e R s m args below meth c H locs cells slots A D cA b L xs ad jls Q S Dy k
  obtain ⟨hx, hb, -, hown, hts, hE, -⟩ := S
  obtain ⟨-, -, -, -, -, hX, hbl, hbA, -, -⟩ := hE
  obtain ⟨-, -, hS, -, -, hwf, -, -⟩ := Dy
  have e1 : (kK h 0).2 = L := by rw [hwf.2.1]
  rw [e1] at k
  exact va_slen hx hb hX hbl hbA hS d k
/-- a write into an array: what the world's list becomes -/
theorem kg_store {a : Nat} {u w : List Value} {h2 : KH} {e2 : (Nat → ClassId) → va_E} (hN : kN h2 = kN h) (hC2 : kC h2 = kC h) (hS2 : kS h2 = kS h) (hK2 : kK h2 = kK h) (hR2 : kR h2 = kR h) (ho : ∀ b, b ≠ a → kI h2 b = kI h b ∧ kL h2 b = kL h b) (hst : ∃ u0, u = u0 ++ .ref a :: w)
    (he : ∀ cA ad, e2 cA = kcell cA ad h2 a) (hwf : ∀ L xs, 1 ≤ a → kwf L xs h → kwf L xs h2)
    (f : ∀ (p : Program) (l : Launch) (e : Env) (R : Room) (s : State) (m : MethodId) (args : Array Value) (below : List Frame) (meth : Method) (c : Code) (H : Heap) (locs : List Loc) (cells slots : Nat) (A : Nat → Prop) (D : va_G) (cA : Nat → ClassId) (b L : Nat) (xs : Nat → Int32) (ad : Nat → Nat) (jls : Array Slot) (Q : State → Prop),
      kSt r M p l R s m args meth c A D cA b L xs → kDy M s A D cA b L xs ad h ls u H locs jls → (kwld cA ad h)[a - 1]? = some (ad a, kcell cA ad h a) →
      (∀ (H1 : Heap) (locs1 : List Loc), va_P D vwCl ((kwld cA ad h).set (a - 1) (ad a, e2 cA)) H1 → va_D A ((kwld cA ad h).set (a - 1) (ad a, e2 cA)) → va_S A s.heap H1 locs1 → W p l e R s m args below meth c H1 locs1 cells slots Q (F0 m (pc + 1) jls (w.map (ktr b ad)))) → W p l e R s m args below meth c H locs cells slots Q (F0 m pc jls (u.map (ktr b ad)))) : kGo r M pc ls u h (pc + 1) ls w h2 := by
  refine ⟨⟨by omega, by omega, by omega⟩, ?_⟩
  intro p l e R s m args below meth c H locs cells slots A D cA b L xs ad jls c0 s0 Q S Dy hc0 hs0 hC hS kk
  obtain ⟨u0, rfl⟩ := hst
  have hall := Dy.2.2.2.2.2.2.2
  have ha : kvl (kN h) (.ref a) := hall _ (List.mem_append_right _ List.mem_cons_self)
  refine f p l e R s m args below meth c H locs cells slots A D cA b L xs ad jls Q S Dy (kwld_get ha.1 ha.2) ?_
  intro H1 locs1 hP1 hD1 hS1
  have hset : (kwld cA ad h).set (a - 1) (ad a, e2 cA) = kwld cA ad h2 := kwld_set hN ha.1 ha.2 (he cA ad) (fun b2 hb2 => kcell_same (ho b2 hb2).1 (ho b2 hb2).2 (by rw [hR2]) (by rw [hK2]) (fun _ => rfl))
  rw [hset] at hP1 hD1
  obtain ⟨d1, d2, d3, d4, d5, d6, d7, d8⟩ := Dy
  exact kk H1 locs1 jls ad cells slots ⟨hP1, hD1, hS1, d4, d5, hwf L xs ha.1 d6, fun i v hv => by rw [hN]; exact d7 i v hv, fun v hv => by rw [hN]; exact d8 v (List.mem_append_right _ (List.mem_cons_of_mem _ hv))⟩ (kext_rf _ _) (by rw [hC2]; exact hc0) (by rw [hS2]; exact hs0)
theorem kg_iast {a : Nat} {j x : Int32} (d : decode (kby M) pc = .ok (.iastore, 1)) (hk : (kK h a).1 = 1) (hj : vp_in j (kK h a).2) : kGo r M pc ls (.int x :: .int j :: .ref a :: st) h (pc + 1) ls st (sI h a j.toNatClampNeg x) := by
  refine kg_store (a := a) (e2 := fun cA => .inl (cA 1, (kK h a).2, .inl (upd (kI h a) j.toNatClampNeg x))) rfl rfl rfl rfl rfl (fun b hb => ⟨by rw [kI_sI, if_neg hb], rfl⟩) ⟨[.int x, .int j], rfl⟩ (fun cA ad => by rw [kcell_1 (h := sI h a j.toNatClampNeg x) hk, kI_sI, if_pos rfl]; rfl) (fun L xs ha w => kwf_sI ha w) ?_
  intro p l e R s m args below meth c H locs cells slots A D cA b L xs ad jls Q S Dy hg kk
  obtain ⟨hx, hb, -, hown, hts, hE, -⟩ := S
  rw [kcell_1 hk] at hg
  exact va_iast hx hb hE.1 Dy.1 Dy.2.1 Dy.2.2.1 (a - 1) 0 hg (ktys_at cA).1 hj d kk
theorem kg_last {a : Nat} {j : Int32} {x : Int64} (d : decode (kby M) pc = .ok (.lastore, 1)) (hk : (kK h a).1 = 2) (hj : vp_in j (kK h a).2) : kGo r M pc ls (.long x :: .int j :: .ref a :: st) h (pc + 1) ls st (sL h a j.toNatClampNeg x) := by
  refine kg_store (a := a) (e2 := fun cA => .inl (cA 2, (kK h a).2, .inr (.inl (vp_updL (kL h a) j.toNatClampNeg x)))) rfl rfl rfl rfl rfl (fun b hb => ⟨rfl, by rw [kL_sL, if_neg hb]⟩) ⟨[.long x, .int j], rfl⟩ (fun cA ad => by rw [kcell_2 (h := sL h a j.toNatClampNeg x) hk, kL_sL, if_pos rfl]; rfl) (fun L xs ha w => kwf_sL w) ?_
  intro p l e R s m args below meth c H locs cells slots A D cA b L xs ad jls Q S Dy hg kk
  obtain ⟨hx, hb, -, hown, hts, hE, -⟩ := S
  rw [kcell_2 hk] at hg
  exact va_last hx hb hE.1 Dy.1 Dy.2.1 Dy.2.2.1 (a - 1) 1 hg (ktys_at cA).2.1 hj d kk
theorem kg_bast {a : Nat} {j x : Int32} (d : decode (kby M) pc = .ok (.bastore, 1)) (hk : (kK h a).1 = 3) (hj : vp_in j (kK h a).2) : kGo r M pc ls (.int x :: .int j :: .ref a :: st) h (pc + 1) ls st (sI h a j.toNatClampNeg (vp_nar .byte x)) := by
  refine kg_store (a := a) (e2 := fun cA => .inl (cA 3, (kK h a).2, .inl (upd (kI h a) j.toNatClampNeg (vp_nar .byte x)))) rfl rfl rfl rfl rfl (fun b hb => ⟨by rw [kI_sI, if_neg hb], rfl⟩) ⟨[.int x, .int j], rfl⟩ (fun cA ad => by rw [kcell_3 (h := sI h a j.toNatClampNeg (vp_nar .byte x)) hk, kI_sI, if_pos rfl]; rfl) (fun L xs ha w => kwf_sI ha w) ?_
  intro p l e R s m args below meth c H locs cells slots A D cA b L xs ad jls Q S Dy hg kk
  obtain ⟨hx, hb, -, hown, hts, hE, -⟩ := S
  rw [kcell_3 hk] at hg
  exact va_bast hx hb hE.1 Dy.1 Dy.2.1 Dy.2.2.1 (a - 1) 2 hg (ktys_at cA).2.2.1 hj d kk
theorem kg_zast {a : Nat} {j x : Int32} (d : decode (kby M) pc = .ok (.bastore, 1)) (hk : (kK h a).1 = 4) (hj : vp_in j (kK h a).2) : kGo r M pc ls (.int x :: .int j :: .ref a :: st) h (pc + 1) ls st (sI h a j.toNatClampNeg (vp_nar .boolean x)) := by
  refine kg_store (a := a) (e2 := fun cA => .inl (cA 4, (kK h a).2, .inl (upd (kI h a) j.toNatClampNeg (vp_nar .boolean x)))) rfl rfl rfl rfl rfl (fun b hb => ⟨by rw [kI_sI, if_neg hb], rfl⟩) ⟨[.int x, .int j], rfl⟩ (fun cA ad => by rw [kcell_4 (h := sI h a j.toNatClampNeg (vp_nar .boolean x)) hk, kI_sI, if_pos rfl]; rfl) (fun L xs ha w => kwf_sI ha w) ?_
  intro p l e R s m args below meth c H locs cells slots A D cA b L xs ad jls Q S Dy hg kk
  obtain ⟨hx, hb, -, hown, hts, hE, -⟩ := S
  rw [kcell_4 hk] at hg
  exact va_zast hx hb hE.1 Dy.1 Dy.2.1 Dy.2.2.1 (a - 1) 3 hg (ktys_at cA).2.2.2 hj d kk
/-- a new cell comes -/
theorem kwld_new {cA : Nat → ClassId} {ad : Nat → Nat} {kd : Nat × Nat} {n q : Nat} {e : va_E} (hr : ∀ a j, a ≤ kN h → kR h a j ≤ kN h) (he : e = kcell cA (va_up ad (kN h + 1) q) (knew h kd n) (kN h + 1)) : kwld cA ad h ++ [(q, e)] = kwld cA (va_up ad (kN h + 1) q) (knew h kd n) := by
  subst he
  apply List.ext_getElem?
  intro k
  by_cases hk : k < kN h
  · rw [List.getElem?_append_left (by rw [kwld_len]; exact hk)]
    have e1 := kwld_get (cA := cA) (ad := ad) (h := h) (a := k + 1) (by omega) (by omega)
    have e2 := kwld_get (cA := cA) (ad := va_up ad (kN h + 1) q) (h := knew h kd n) (a := k + 1) (by omega) (by rw [kN_new]; omega)
    rw [Nat.add_sub_cancel] at e1 e2
    rw [e1, e2]
    have hne : k + 1 ≠ kN h + 1 := by omega
    have h1 : va_up ad (kN h + 1) q (k + 1) = ad (k + 1) := by simp [va_up, show k ≠ kN h by omega]
    have hce : kcell cA (va_up ad (kN h + 1) q) (knew h kd n) (k + 1) = kcell cA ad h (k + 1) := by
      refine kcell_same (h := h) (h' := knew h kd n) (by rw [kI_new, if_neg hne]) (by rw [kL_new, if_neg hne]) (by rw [kR_new, if_neg hne]) (by rw [kK_new, if_neg hne]) (fun j => ?_)
      have h2 := hr (k + 1) j (by omega)
      simp only [krv, va_up]
      split
      · rfl
      · rw [if_neg (by omega)]
    rw [h1, hce]
  · rw [List.getElem?_append_right (by rw [kwld_len]; omega), kwld_len]
    by_cases hk2 : k = kN h
    · subst hk2
      have e2 := kwld_get (cA := cA) (ad := va_up ad (kN h + 1) q) (h := knew h kd n) (a := kN h + 1) (by omega) (by rw [kN_new]; omega)
      rw [Nat.add_sub_cancel] at e2
      rw [e2]
      simp [va_up]
    · rw [kwld_none (by rw [kN_new]; omega), List.getElem?_eq_none (by simp; omega)]
theorem kDy_new {s : State} {A : Nat → Prop} {D : va_G} {cA : Nat → ClassId} {b L : Nat} {xs : Nat → Int32} {ad : Nat → Nat} {st2 : List Value} {H H1 : Heap} {locs locs1 : List Loc} {jls : Array Slot} {kd : Nat × Nat} {n q : Nat} {e : va_E} (Dy : kDy M s A D cA b L xs ad h ls st H locs jls) (hv : ∀ v ∈ st2, kvl (kN h) v)
    (he : e = kcell cA (va_up ad (kN h + 1) q) (knew h kd n) (kN h + 1)) (hP1 : va_P D vwCl (kwld cA ad h ++ [(q, e)]) H1) (hD1 : va_D A (kwld cA ad h ++ [(q, e)])) (hS1 : va_S A s.heap H1 locs1) :
    kDy M s A D cA b L xs (va_up ad (kN h + 1) q) (knew h kd n) ls (.ref (kN h + 1) :: st2) H1 locs1 jls ∧ kext (kN h) ad (va_up ad (kN h + 1) q) := by
  obtain ⟨d1, d2, d3, d4, d5, d6, d7, d8⟩ := Dy
  have hext : kext (kN h) ad (va_up ad (kN h + 1) q) := fun k hk => by simp [va_up, show k ≠ kN h + 1 by omega]
  rw [kwld_new d6.1 he] at hP1 hD1
  refine ⟨⟨hP1, hD1, hS1, d4, by rw [kls_ext d7 hext]; exact d5, ⟨fun a j ha => ?_, ?_, ?_⟩, fun i v hv => kvl_mono (d7 i v hv) (by rw [kN_new]; omega), ?_⟩, hext⟩
  · rw [kR_new, kN_new]
    split
    · exact Nat.zero_le _
    · rename_i q; rw [kN_new] at ha; exact Nat.le_trans (d6.1 a j (by omega)) (by omega)
  · rw [kK_new, if_neg (by omega)]; exact d6.2.1
  · rw [kI_new, if_neg (by omega)]; exact d6.2.2
  · refine kv_cons (show 1 ≤ kN h + 1 ∧ kN h + 1 ≤ kN h + 1 from ⟨by omega, Nat.le_refl _⟩) (fun v hm => kvl_mono (hv v hm) (by rw [kN_new]; omega))
theorem kg_new {ci ix n : Nat} (d : decode (kby M) pc = .ok (.new ix, 3)) (hc : ci < 13) (hn : n = knf ci) (hw1 : Cond.classLink (kown M) ix (kcls ci) ∈ kgw) (hw2 : Cond.instantiable (kcls ci) (knf ci) ∈ kgw) (hw3 : Cond.initialized (kcls ci) ∈ kgw) (htg : ∀ j, j < knf ci → ktagOf (kty ci j) ≠ 9) : kGo r M pc ls st h (pc + 3) ls (.ref (kN h + 1) :: st) (knew h (0, ci) n) := by
  subst hn
  refine ⟨⟨by rw [kN_new]; omega, by rw [kC_new]; omega, by rw [kS_new]; omega⟩, ?_⟩
  intro p l e R s m args below meth c H locs cells slots A D cA b L xs ad jls c0 s0 Q S Dy hc0 hs0 hC hS kk
  obtain ⟨hx, hb, -, hown, hts, hE, -, -, -, -, -, -, -, hA⟩ := S
  have hcl := kcl_at hc
  have hty := kcl_ty hcl
  have hst := Dy.2.2.2.2.2.2.2
  refine va_new (ci := ci) (fs := kfl ad (knew h (0, ci) (knf ci)) (kN h + 1) ci) hx hb hts (kuws hcl) (kty ci) hty.1 hown (hts _ hw1) (hts _ hw2) (hts _ hw3) hE.1 Dy.1 Dy.2.1 Dy.2.2.1 hA hcl (fun j hj => ?_) (by rw [kC_new] at hC; omega) (by rw [kS_new] at hS; show slots + knf ci ≤ R.slots; omega) d (fun q H1 hP1 hD1 hS1 => ?_)
  · have hj' : j < knf ci := hj
    have h1 := htg j hj'
    simp only [vp_V, List.getD_eq_getElem?_getD, kfl_get hj', Option.getD_some]
    generalize kty ci j = ty at h1
    cases ty <;> first | (simp [ktagOf, kfv, kI_new, kL_new, kR_new, krv, defaultValue]; done) | (simp [ktagOf] at h1; done)
  · have he : (Sum.inr (ci, kfl ad (knew h (0, ci) (knf ci)) (kN h + 1) ci) : va_E) = kcell cA (va_up ad (kN h + 1) q) (knew h (0, ci) (knf ci)) (kN h + 1) := by
      rw [kcell_0 (ci := ci) (by rw [kK_new, if_pos rfl])]
      have : kfl ad (knew h (0, ci) (knf ci)) (kN h + 1) ci = kfl (va_up ad (kN h + 1) q) (knew h (0, ci) (knf ci)) (kN h + 1) ci := by
        simp only [kfl]
        apply List.map_congr_left
        intro j _
        simp only [kfv, kR_new, if_true, krv]
      rw [this]
    obtain ⟨h1, h2⟩ := kDy_new Dy hst he hP1 hD1 hS1
    have hm : st.map (ktr b (va_up ad (kN h + 1) q)) = st.map (ktr b ad) := ktr_map hst h2
    have h3 := kk H1 locs jls (va_up ad (kN h + 1) q) (cells + 1) (slots + knf ci) h1 h2 (by rw [kC_new]; omega) (by rw [kS_new]; omega)
    rw [List.map_cons, hm, show ktr b (va_up ad (kN h + 1) q) (.ref (kN h + 1)) = .ref q by simp [ktr, va_up]] at h3
    exact h3
theorem kg_newa1 {x : Int32} (d : decode (kby M) pc = .ok (.newarray .int, 2)) (hw : Cond.arrayClass .int ∈ kgw) (hx0 : ¬ x < 0) (hb0 : x.toNatClampNeg ≤ 100000) : kGo r M pc ls (.int x :: st) h (pc + 2) ls (.ref (kN h + 1) :: st) (knew h (1, x.toNatClampNeg) x.toNatClampNeg) := by
  refine ⟨⟨by rw [kN_new]; omega, by rw [kC_new]; omega, by rw [kS_new]; omega⟩, ?_⟩
  intro p l e R s m args below meth c H locs cells slots A D cA b L xs ad jls c0 s0 Q S Dy hc0 hs0 hC hS kk
  obtain ⟨hx, hb, -, hown, hts, hE, -, -, -, -, -, -, -, hA⟩ := S
  have hst := kv_tl Dy.2.2.2.2.2.2.2
  refine va_newa (atype := .int) (ty := .int) (a0 := (x.toNatClampNeg, .inl (fun _ => 0))) hx hb (hts _ hw) rfl hE.1 Dy.1 Dy.2.1 Dy.2.2.1 hA (fun _ => rfl) hx0 rfl (Nat.le_trans (Nat.mul_le_mul hb0 (show componentBytes .int ≤ 8 by decide)) (Nat.le_of_ble_eq_true rfl)) (by rw [kC_new] at hC; omega) (by rw [kS_new] at hS; omega) d (fun q cN H1 hK1 hP1 hD1 hS1 => ?_)
  have hcN : cN = cA 1 := by
    have h1 : s.vm.findClass ("[" ++ FieldType.toString .int) = some cN := (hK1.2 4 (cN, .int) rfl).2
    have h2 : s.vm.findClass ("[" ++ FieldType.toString .int) = some (cA 1) := (hE.1.2 0 (cA 1, .int) rfl).2
    exact Option.some.inj (h1.symm.trans h2)
  subst hcN
  have he : (Sum.inl (cA 1, (x.toNatClampNeg, .inl (fun _ => 0))) : va_E) = kcell cA (va_up ad (kN h + 1) q) (knew h (1, x.toNatClampNeg) x.toNatClampNeg) (kN h + 1) := by
    rw [kcell_1 (by rw [kK_new, if_pos rfl]), kK_new, if_pos rfl]
    simp only [kI_new, kL_new, if_true]
  obtain ⟨h1, h2⟩ := kDy_new (kDy_stk Dy hst) hst he hP1 hD1 hS1
  have hm : st.map (ktr b (va_up ad (kN h + 1) q)) = st.map (ktr b ad) := ktr_map hst h2
  have h3 := kk H1 locs jls (va_up ad (kN h + 1) q) (cells + 1) (slots + x.toNatClampNeg) h1 h2 (by rw [kC_new]; omega) (by rw [kS_new]; omega)
  rw [List.map_cons, hm, show ktr b (va_up ad (kN h + 1) q) (.ref (kN h + 1)) = .ref q by simp [ktr, va_up]] at h3
  exact h3
theorem kg_newa2 {x : Int32} (d : decode (kby M) pc = .ok (.newarray .long, 2)) (hw : Cond.arrayClass .long ∈ kgw) (hx0 : ¬ x < 0) (hb0 : x.toNatClampNeg ≤ 100000) : kGo r M pc ls (.int x :: st) h (pc + 2) ls (.ref (kN h + 1) :: st) (knew h (2, x.toNatClampNeg) x.toNatClampNeg) := by
  refine ⟨⟨by rw [kN_new]; omega, by rw [kC_new]; omega, by rw [kS_new]; omega⟩, ?_⟩
  intro p l e R s m args below meth c H locs cells slots A D cA b L xs ad jls c0 s0 Q S Dy hc0 hs0 hC hS kk
  obtain ⟨hx, hb, -, hown, hts, hE, -, -, -, -, -, -, -, hA⟩ := S
  have hst := kv_tl Dy.2.2.2.2.2.2.2
  refine va_newa (atype := .long) (ty := .long) (a0 := (x.toNatClampNeg, .inr (.inl (fun _ => 0)))) hx hb (hts _ hw) rfl hE.1 Dy.1 Dy.2.1 Dy.2.2.1 hA (fun _ => rfl) hx0 rfl (Nat.le_trans (Nat.mul_le_mul hb0 (show componentBytes .long ≤ 8 by decide)) (Nat.le_of_ble_eq_true rfl)) (by rw [kC_new] at hC; omega) (by rw [kS_new] at hS; omega) d (fun q cN H1 hK1 hP1 hD1 hS1 => ?_)
  have hcN : cN = cA 2 := by
    have h1 : s.vm.findClass ("[" ++ FieldType.toString .long) = some cN := (hK1.2 4 (cN, .long) rfl).2
    have h2 : s.vm.findClass ("[" ++ FieldType.toString .long) = some (cA 2) := (hE.1.2 1 (cA 2, .long) rfl).2
    exact Option.some.inj (h1.symm.trans h2)
  subst hcN
  have he : (Sum.inl (cA 2, (x.toNatClampNeg, .inr (.inl (fun _ => 0)))) : va_E) = kcell cA (va_up ad (kN h + 1) q) (knew h (2, x.toNatClampNeg) x.toNatClampNeg) (kN h + 1) := by
    rw [kcell_2 (by rw [kK_new, if_pos rfl]), kK_new, if_pos rfl]
    simp only [kI_new, kL_new, if_true]
  obtain ⟨h1, h2⟩ := kDy_new (kDy_stk Dy hst) hst he hP1 hD1 hS1
  have hm : st.map (ktr b (va_up ad (kN h + 1) q)) = st.map (ktr b ad) := ktr_map hst h2
  have h3 := kk H1 locs jls (va_up ad (kN h + 1) q) (cells + 1) (slots + x.toNatClampNeg) h1 h2 (by rw [kC_new]; omega) (by rw [kS_new]; omega)
  rw [List.map_cons, hm, show ktr b (va_up ad (kN h + 1) q) (.ref (kN h + 1)) = .ref q by simp [ktr, va_up]] at h3
  exact h3
theorem kg_newa3 {x : Int32} (d : decode (kby M) pc = .ok (.newarray .byte, 2)) (hw : Cond.arrayClass .byte ∈ kgw) (hx0 : ¬ x < 0) (hb0 : x.toNatClampNeg ≤ 100000) : kGo r M pc ls (.int x :: st) h (pc + 2) ls (.ref (kN h + 1) :: st) (knew h (3, x.toNatClampNeg) x.toNatClampNeg) := by
  refine ⟨⟨by rw [kN_new]; omega, by rw [kC_new]; omega, by rw [kS_new]; omega⟩, ?_⟩
  intro p l e R s m args below meth c H locs cells slots A D cA b L xs ad jls c0 s0 Q S Dy hc0 hs0 hC hS kk
  obtain ⟨hx, hb, -, hown, hts, hE, -, -, -, -, -, -, -, hA⟩ := S
  have hst := kv_tl Dy.2.2.2.2.2.2.2
  refine va_newa (atype := .byte) (ty := .byte) (a0 := (x.toNatClampNeg, .inl (fun _ => 0))) hx hb (hts _ hw) rfl hE.1 Dy.1 Dy.2.1 Dy.2.2.1 hA (fun _ => rfl) hx0 rfl (Nat.le_trans (Nat.mul_le_mul hb0 (show componentBytes .byte ≤ 8 by decide)) (Nat.le_of_ble_eq_true rfl)) (by rw [kC_new] at hC; omega) (by rw [kS_new] at hS; omega) d (fun q cN H1 hK1 hP1 hD1 hS1 => ?_)
  have hcN : cN = cA 3 := by
    have h1 : s.vm.findClass ("[" ++ FieldType.toString .byte) = some cN := (hK1.2 4 (cN, .byte) rfl).2
    have h2 : s.vm.findClass ("[" ++ FieldType.toString .byte) = some (cA 3) := (hE.1.2 2 (cA 3, .byte) rfl).2
    exact Option.some.inj (h1.symm.trans h2)
  subst hcN
  have he : (Sum.inl (cA 3, (x.toNatClampNeg, .inl (fun _ => 0))) : va_E) = kcell cA (va_up ad (kN h + 1) q) (knew h (3, x.toNatClampNeg) x.toNatClampNeg) (kN h + 1) := by
    rw [kcell_3 (by rw [kK_new, if_pos rfl]), kK_new, if_pos rfl]
    simp only [kI_new, kL_new, if_true]
  obtain ⟨h1, h2⟩ := kDy_new (kDy_stk Dy hst) hst he hP1 hD1 hS1
  have hm : st.map (ktr b (va_up ad (kN h + 1) q)) = st.map (ktr b ad) := ktr_map hst h2
  have h3 := kk H1 locs jls (va_up ad (kN h + 1) q) (cells + 1) (slots + x.toNatClampNeg) h1 h2 (by rw [kC_new]; omega) (by rw [kS_new]; omega)
  rw [List.map_cons, hm, show ktr b (va_up ad (kN h + 1) q) (.ref (kN h + 1)) = .ref q by simp [ktr, va_up]] at h3
  exact h3
theorem kg_newa4 {x : Int32} (d : decode (kby M) pc = .ok (.newarray .boolean, 2)) (hw : Cond.arrayClass .boolean ∈ kgw) (hx0 : ¬ x < 0) (hb0 : x.toNatClampNeg ≤ 100000) : kGo r M pc ls (.int x :: st) h (pc + 2) ls (.ref (kN h + 1) :: st) (knew h (4, x.toNatClampNeg) x.toNatClampNeg) := by
  refine ⟨⟨by rw [kN_new]; omega, by rw [kC_new]; omega, by rw [kS_new]; omega⟩, ?_⟩
  intro p l e R s m args below meth c H locs cells slots A D cA b L xs ad jls c0 s0 Q S Dy hc0 hs0 hC hS kk
  obtain ⟨hx, hb, -, hown, hts, hE, -, -, -, -, -, -, -, hA⟩ := S
  have hst := kv_tl Dy.2.2.2.2.2.2.2
  refine va_newa (atype := .boolean) (ty := .boolean) (a0 := (x.toNatClampNeg, .inl (fun _ => 0))) hx hb (hts _ hw) rfl hE.1 Dy.1 Dy.2.1 Dy.2.2.1 hA (fun _ => rfl) hx0 rfl (Nat.le_trans (Nat.mul_le_mul hb0 (show componentBytes .boolean ≤ 8 by decide)) (Nat.le_of_ble_eq_true rfl)) (by rw [kC_new] at hC; omega) (by rw [kS_new] at hS; omega) d (fun q cN H1 hK1 hP1 hD1 hS1 => ?_)
  have hcN : cN = cA 4 := by
    have h1 : s.vm.findClass ("[" ++ FieldType.toString .boolean) = some cN := (hK1.2 4 (cN, .boolean) rfl).2
    have h2 : s.vm.findClass ("[" ++ FieldType.toString .boolean) = some (cA 4) := (hE.1.2 3 (cA 4, .boolean) rfl).2
    exact Option.some.inj (h1.symm.trans h2)
  subst hcN
  have he : (Sum.inl (cA 4, (x.toNatClampNeg, .inl (fun _ => 0))) : va_E) = kcell cA (va_up ad (kN h + 1) q) (knew h (4, x.toNatClampNeg) x.toNatClampNeg) (kN h + 1) := by
    rw [kcell_4 (by rw [kK_new, if_pos rfl]), kK_new, if_pos rfl]
    simp only [kI_new, kL_new, if_true]
  obtain ⟨h1, h2⟩ := kDy_new (kDy_stk Dy hst) hst he hP1 hD1 hS1
  have hm : st.map (ktr b (va_up ad (kN h + 1) q)) = st.map (ktr b ad) := ktr_map hst h2
  have h3 := kk H1 locs jls (va_up ad (kN h + 1) q) (cells + 1) (slots + x.toNatClampNeg) h1 h2 (by rw [kC_new]; omega) (by rw [kS_new]; omega)
  rw [List.map_cons, hm, show ktr b (va_up ad (kN h + 1) q) (.ref (kN h + 1)) = .ref q by simp [ktr, va_up]] at h3
  exact h3
end KS4

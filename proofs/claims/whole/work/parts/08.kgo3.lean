theorem kin_mem {i : Nat} {w : Cond} (h : kin i w = true) : w ∈ kgw := by
  simp only [kin, Bool.and_eq_true] at h
  obtain ⟨h1, h2⟩ := h
  split at h1
  · rename_i u hu
    have := of_decide_eq_true h1
    subst this
    exact List.mem_filter.mpr ⟨kat_mem hu, h2⟩
  · cases h1
theorem kinE_mem {i : Nat} {w : Cond} (h : kinE i w = true) : w ∈ kew := by
  simp only [kinE, Bool.and_eq_true] at h
  obtain ⟨h1, h2⟩ := h
  split at h1
  · rename_i u hu
    have := of_decide_eq_true h1
    subst this
    exact List.mem_filter.mpr ⟨kat_mem hu, h2⟩
  · cases h1
def kuwsB (q : vw_C) (ix : List Nat) : Bool := (List.range q.2.2).all (fun k => kin (ix.getD k 0) (u_lay q.1 q.2.1 k))
theorem kuws_ok : (List.range 13).all (fun ci => match vwCl[ci]? with | some q => kuwsB q (kuIx.getD ci []) | none => false) = true := by decide +kernel
theorem kuws {ci : Nat} {q : vw_C} (hq : vwCl[ci]? = some q) : ∀ w ∈ u_ws q.1 q.2.1 q.2.2, w ∈ kgw := by
  intro w hw
  have hc : ci < 13 := (List.getElem?_eq_some_iff.mp hq).1
  have h1 := List.all_eq_true.mp kuws_ok ci (List.mem_range.mpr hc)
  rw [hq] at h1
  obtain ⟨k, hk, rfl⟩ := List.mem_map.mp hw
  exact kin_mem (List.all_eq_true.mp h1 k hk)
theorem kcl_ty {ci : Nat} {q : vw_C} (hq : vwCl[ci]? = some q) : (∀ k, k < q.2.2 → parseFieldDescriptor (q.2.1 k).2.2.1 = some (kty ci k)) ∧ (∀ a, a < q.2.2 → ∀ b, b < q.2.2 → a ≠ b → (q.2.1 a).2.1 ≠ (q.2.1 b).2.1) := by
  match ci, hq with
  | 0, hq => cases hq; exact ⟨tyX0_ok, nmX0⟩
  | 1, hq => cases hq; exact ⟨tyX1_ok, nmX1⟩
  | 2, hq => cases hq; exact ⟨tyX2_ok, nmX2⟩
  | 3, hq => cases hq; exact ⟨tyX3_ok, nmX3⟩
  | 4, hq => cases hq; exact ⟨tyX4_ok, nmX4⟩
  | 5, hq => cases hq; exact ⟨tyX5_ok, nmX5⟩
  | 6, hq => cases hq; exact ⟨tyX6_ok, nmX6⟩
  | 7, hq => cases hq; exact ⟨tyX7_ok, nmX7⟩
  | 8, hq => cases hq; exact ⟨tyX8_ok, nmX8⟩
  | 9, hq => cases hq; exact ⟨tyX9_ok, nmX9⟩
  | 10, hq => cases hq; exact ⟨tyX10_ok, nmX10⟩
  | 11, hq => cases hq; exact ⟨tyX11_ok, nmX11⟩
  | 12, hq => cases hq; exact ⟨tyX12_ok, nmX12⟩
  | n + 13, hq => simp at hq
theorem kcl_at {ci : Nat} (hc : ci < 13) : vwCl[ci]? = some (kcls ci, (fun j => kname ci j), knf ci) := by
  have hq : ∃ q, vwCl[ci]? = some q := ⟨_, List.getElem?_eq_getElem (show ci < vwCl.length from hc)⟩
  obtain ⟨q, hq⟩ := hq
  simp only [kcls, knf, kname, hq]
section KS3
variable {r : Nat} {M : KM} {pc : Nat} {ls : List (Option Value)} {st : List Value} {h : KH}
theorem kg_get {a ci j ix : Nat} {v : Value} (d : decode (kby M) pc = .ok (.getfield ix, 3)) (hc : ci < 13) (hj : j < knf ci) (hk : kK h a = (0, ci)) (hw : Cond.fieldLink (kown M) ix (kname ci j).1 (kname ci j).2.1 (kname ci j).2.2.1 ∈ kgw)
    (hv : ∀ (b : Nat) (ad : Nat → Nat), ktr b ad v = kfv ad h a j (ktagOf (kty ci j))) (hvl : (∀ j, kR h a j ≤ kN h) → kvl (kN h) v) : kGo r M pc ls (.ref a :: st) h (pc + 3) ls (v :: st) h := by
  refine ⟨kup_rf h, ?_⟩
  intro p l e R s m args below meth c H locs cells slots A D cA b L xs ad jls c0 s0 Q S Dy hc0 hs0 hC hS kk
  obtain ⟨hx, hb, -, hown, hts, hE, -⟩ := S
  have hst := Dy.2.2.2.2.2.2.2
  have ha : kvl (kN h) (.ref a) := kv_hd hst
  have hg := kwld_get (cA := cA) (ad := ad) ha.1 ha.2
  rw [kcell_0 hk] at hg
  have hcl := kcl_at hc
  have k2 := kk H locs jls ad cells slots (kDy_stk Dy (kv_cons (hvl (fun j => Dy.2.2.2.2.2.1.1 a j ha.2)) (kv_tl hst))) (kext_rf _ _) hc0 hs0
  exact va_get hx hb hts (kuws hcl) hown hE.1 Dy.1 (a - 1) hg hcl j hj (hts _ hw) (fun _ q => q) (by rw [kfl_get hj, ← hv b ad]) d k2
theorem kg_put {a ci j ix : Nat} {v : Value} {h2 : KH} (d : decode (kby M) pc = .ok (.putfield ix, 3)) (hc : ci < 13) (hj : j < knf ci) (hk : kK h a = (0, ci)) (hw : Cond.fieldLink (kown M) ix (kname ci j).1 (kname ci j).2.1 (kname ci j).2.2.1 ∈ kgw) (hp : kokput M ci j = true)
    (hn : ∀ (b : Nat) (ad : Nat → Nat), narrow (kty ci j) (ktr b ad v) = ktr b ad v ∧ fits (kty ci j) (ktr b ad v) = true) (hN : kN h2 = kN h) (hC2 : kC h2 = kC h) (hS2 : kS h2 = kS h)
    (hf : ∀ (b : Nat) (ad : Nat → Nat), kfv ad h2 a j (ktagOf (kty ci j)) = ktr b ad v) (hfo : ∀ (ad : Nat → Nat) i t, i ≠ j → kfv ad h2 a i t = kfv ad h a i t) (hK2 : kK h2 = kK h)
    (ho : ∀ b, b ≠ a → kI h2 b = kI h b ∧ kL h2 b = kL h b ∧ kR h2 b = kR h b) (hwf : ∀ L xs, kvl (kN h) v → 1 ≤ a → kwf L xs h → kwf L xs h2) : kGo r M pc ls (v :: .ref a :: st) h (pc + 3) ls st h2 := by
  refine ⟨⟨by omega, by omega, by omega⟩, ?_⟩
  intro p l e R s m args below meth c H locs cells slots A D cA b L xs ad jls c0 s0 Q S Dy hc0 hs0 hC hS kk
  obtain ⟨hx, hb, -, hown, hts, hE, -, -, -, -, hini, -⟩ := S
  obtain ⟨d1, d2, d3, d4, d5, d6, d7, hst⟩ := Dy
  have ha : kvl (kN h) (.ref a) := kv_hd (kv_tl hst)
  have hg := kwld_get (cA := cA) (ad := ad) ha.1 ha.2
  rw [kcell_0 hk] at hg
  have hcl := kcl_at hc
  have hset : (kwld cA ad h).set (a - 1) (ad a, .inr (ci, (kfl ad h a ci).set j (ktr b ad v))) = kwld cA ad h2 := by
    refine kwld_set hN ha.1 ha.2 ?_ (fun b2 hb2 => ?_)
    · rw [kcell_0 (by rw [hK2]; exact hk), kfl_set hj (hf b ad) (hfo ad)]
    · obtain ⟨q1, q2, q3⟩ := ho b2 hb2
      exact kcell_same q1 q2 q3 (by rw [hK2]) (fun _ => rfl)
  have k2 : ∀ (H1 : Heap) (locs1 : List Loc), va_P D vwCl ((kwld cA ad h).set (a - 1) (ad a, .inr (ci, (kfl ad h a ci).set j (ktr b ad v)))) H1 → va_D A ((kwld cA ad h).set (a - 1) (ad a, .inr (ci, (kfl ad h a ci).set j (ktr b ad v)))) → va_S A s.heap H1 locs1 → W p l e R s m args below meth c H1 locs1 cells slots Q (F0 m (pc + 3) jls (st.map (ktr b ad))) := by
    intro H1 locs1 hP1 hD1 hS1
    rw [hset] at hP1 hD1
    exact kk H1 locs1 jls ad cells slots ⟨hP1, hD1, hS1, d4, d5, hwf L xs (kv_hd hst) ha.1 d6, fun i w hw => by rw [hN]; exact d7 i w hw, fun w hw => by rw [hN]; exact hst w (List.mem_cons_of_mem _ (List.mem_cons_of_mem _ hw))⟩ (kext_rf _ _) (by rw [hC2]; exact hc0) (by rw [hS2]; exact hs0)
  have hty := kcl_ty hcl
  cases hfin : (kname ci j).2.2.2 with
  | false => exact va_put hx hb hts (kuws hcl) (kty ci) hty.1 hty.2 hown hE.1 d1 d2 d3 (a - 1) hg hcl j hj (hts _ hw) (fun _ q => q) hfin (hty.1 j hj) (hn b ad).1 (hn b ad).2 (by rw [kfl_len]; exact hj) d k2
  | true =>
    simp only [kokput, hfin, Bool.not_true, Bool.false_or, Bool.and_eq_true, decide_eq_true_eq] at hp
    exact va_putF hx hb hts (kuws hcl) (kty ci) hty.1 hty.2 hown hE.1 d1 d2 d3 (a - 1) hg hcl j hj (hts _ hw) (fun _ q => q) hfin (hini hp.1) hp.2 (hty.1 j hj) (hn b ad).1 (hn b ad).2 (by rw [kfl_len]; exact hj) d k2
theorem kwf_sI {a j : Nat} {x : Int32} {L : Nat} {xs : Nat → Int32} (ha : 1 ≤ a) (w : kwf L xs h) : kwf L xs (sI h a j x) := ⟨w.1, w.2.1, by rw [kI_sI, if_neg (by omega)]; exact w.2.2⟩
theorem kwf_sL {a j : Nat} {x : Int64} {L : Nat} {xs : Nat → Int32} (w : kwf L xs h) : kwf L xs (sL h a j x) := ⟨w.1, w.2.1, w.2.2⟩
theorem kwf_sR {a j x : Nat} {L : Nat} {xs : Nat → Int32} (hx : x ≤ kN h) (w : kwf L xs h) : kwf L xs (sR h a j x) := by
  refine ⟨fun b i hn => ?_, w.2.1, w.2.2⟩
  rw [kR_sR]
  show _ ≤ kN h
  by_cases hb : b = a
  · rw [if_pos hb]
    simp only [va_up]
    split
    · exact hx
    · exact w.1 a i (hb ▸ hn)
  · rw [if_neg hb]
    exact w.1 b i hn
theorem kg_putI {a ci j ix : Nat} {x : Int32} (d : decode (kby M) pc = .ok (.putfield ix, 3)) (hc : ci < 13) (hj : j < knf ci) (ht : ktagOf (kty ci j) = 0 ∨ (ktagOf (kty ci j) = 3 ∧ (x = 0 ∨ x = 1))) (hk : kK h a = (0, ci)) (hw : Cond.fieldLink (kown M) ix (kname ci j).1 (kname ci j).2.1 (kname ci j).2.2.1 ∈ kgw) (hp : kokput M ci j = true) : kGo r M pc ls (.int x :: .ref a :: st) h (pc + 3) ls st (sI h a j x) := by
  refine kg_put d hc hj hk hw hp (fun b ad => ?_) rfl rfl rfl (fun b ad => ?_) (fun ad i t hi => ?_) rfl (fun b hb => ⟨by rw [kI_sI, if_neg hb], rfl, rfl⟩) (fun L xs _ ha w => kwf_sI ha w)
  · rcases ht with ht | ⟨ht, hx⟩
    · generalize kty ci j = ty at ht
      cases ty <;> first | exact ⟨rfl, rfl⟩ | (simp [ktagOf] at ht)
    · generalize kty ci j = ty at ht
      cases ty <;> first | (simp [ktagOf] at ht; done) | (rcases hx with rfl | rfl <;> exact ⟨by show narrow .boolean (.int _) = .int _; decide, by show fits .boolean (.int _) = true; decide⟩)
  · rcases ht with ht | ⟨ht, -⟩ <;> simp [ht, kfv, ktr, kI_sI, upd]
  · simp only [kfv, kI_sI, kL_sI, kR_sI, if_true]
    split <;> simp [upd, hi]
theorem kg_putL {a ci j ix : Nat} {x : Int64} (d : decode (kby M) pc = .ok (.putfield ix, 3)) (hc : ci < 13) (hj : j < knf ci) (ht : ktagOf (kty ci j) = 1) (hk : kK h a = (0, ci)) (hw : Cond.fieldLink (kown M) ix (kname ci j).1 (kname ci j).2.1 (kname ci j).2.2.1 ∈ kgw) (hp : kokput M ci j = true) : kGo r M pc ls (.long x :: .ref a :: st) h (pc + 3) ls st (sL h a j x) := by
  refine kg_put d hc hj hk hw hp (fun b ad => ?_) rfl rfl rfl (fun b ad => ?_) (fun ad i t hi => ?_) rfl (fun b hb => ⟨rfl, by rw [kL_sL, if_neg hb], rfl⟩) (fun L xs _ ha w => kwf_sL w)
  · generalize kty ci j = ty at ht
    cases ty <;> first | exact ⟨rfl, rfl⟩ | (simp [ktagOf] at ht)
  · simp [ht, kfv, ktr, kL_sL, vp_updL]
  · simp only [kfv, kI_sL, kL_sL, kR_sL, if_true]
    split <;> simp [vp_updL, hi]
theorem kg_putR {a ci j ix x : Nat} (d : decode (kby M) pc = .ok (.putfield ix, 3)) (hc : ci < 13) (hj : j < knf ci) (ht : ktagOf (kty ci j) = 2) (hx : x ≠ 0) (hk : kK h a = (0, ci)) (hw : Cond.fieldLink (kown M) ix (kname ci j).1 (kname ci j).2.1 (kname ci j).2.2.1 ∈ kgw) (hp : kokput M ci j = true) : kGo r M pc ls (.ref x :: .ref a :: st) h (pc + 3) ls st (sR h a j x) := by
  refine kg_put d hc hj hk hw hp (fun b ad => ?_) rfl rfl rfl (fun b ad => ?_) (fun ad i t hi => ?_) rfl (fun b hb => ⟨rfl, rfl, by rw [kR_sR, if_neg hb]⟩) (fun L xs hv ha w => kwf_sR hv.2 w)
  · generalize kty ci j = ty at ht
    cases ty <;> first | exact ⟨rfl, rfl⟩ | (simp [ktagOf] at ht)
  · simp [ht, kfv, ktr, kR_sR, va_up, krv, hx]
  · simp only [kfv, kI_sR, kL_sR, kR_sR, if_true]
    split <;> simp [va_up, hi]
end KS3

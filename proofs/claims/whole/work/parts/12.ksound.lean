section KG
variable {r : Nat} {M : KM} {pc : Nat} {ls : List (Option Value)} {st : List Value} {h h1 : KH}
theorem kcln_get {ls : List (Option Value)} {k i : Nat} {v : Value} (hv : ((kcl ls k).set k none)[i]? = some (some v)) : i ≠ k ∧ ls[i]? = some (some v) ∧ ¬ (i + 1 = k ∧ ∃ x, v = .long x) := by
  by_cases hi : i = k
  · subst hi
    by_cases hl : i < (kcl ls i).length
    · rw [List.getElem?_set_self hl] at hv
      cases hv
    · rw [List.getElem?_eq_none (by rw [List.length_set]; omega)] at hv
      cases hv
  · rw [List.getElem?_set_ne (Ne.symm hi)] at hv
    obtain ⟨h1, h2⟩ := kcl_get hv hi
    refine ⟨hi, h1, fun q => h2 ⟨q.1, ?_, q.2⟩⟩
    obtain ⟨-, x, rfl⟩ := q
    rfl
theorem kls_cln {b : Nat} {ad : Nat → Nat} {ls : List (Option Value)} {k n nL : Nat} {u : Value} {jls : Array Slot} (hv : ∀ (i : Nat) (v : Value), ls[i]? = some (some v) → kvl n v)
    (hl : lv_has jls nL ((k, u) :: (kls b ad ls).filter (fun q => !(q.1 == k) && !(q.1 + 1 == k && q.2.category == 2)))) : lv_has jls nL (kls b ad ((kcl ls k).set k none)) := by
  refine ⟨hl.1, hl.2.1, fun q hq => hl.2.2 q ?_⟩
  obtain ⟨v, h1, h2⟩ := kls_mem.mp hq
  obtain ⟨i, w⟩ := q
  simp only at h1 h2
  subst h2
  obtain ⟨q1, q2, q3⟩ := kcln_get h1
  refine List.mem_cons_of_mem _ (List.mem_filter.mpr ⟨kls_mem.mpr ⟨v, q2, rfl⟩, ?_⟩)
  simp only [Bool.and_eq_true, Bool.not_eq_true', beq_eq_false_iff_ne, ne_eq, Bool.and_eq_false_imp, beq_iff_eq]
  exact ⟨q1, fun e1 e2 => q3 ⟨e1, kcatL (hv _ _ q2) e2⟩⟩
theorem kokh_spec {x : Nat × Nat × Nat × Nat} {E : String} {pc2 k : Nat} (hk : kokh M pc x E pc2 k = true) : covers ⟨x.1, x.2.1, x.2.2.1, x.2.2.2⟩ pc = true ∧ x.2.2.2 ≠ 0 ∧ Cond.classLink (kown M) x.2.2.2 E ∈ kgw ∧ Cond.castable E E ∈ kew ∧ k < kml M ∧ khead M pc2 = true ∧ ((∃ q : Fin 4, decode (kby M) x.2.2.1 = .ok (.astore_n q, 1) ∧ q.val = k ∧ pc2 = x.2.2.1 + 1) ∨ (decode (kby M) x.2.2.1 = .ok (.astore k, 2) ∧ pc2 = x.2.2.1 + 2)) := by
  simp only [kokh, Bool.and_eq_true, decide_eq_true_eq] at hk
  obtain ⟨⟨⟨⟨⟨⟨q1, q2⟩, q3⟩, q4⟩, q5⟩, q6⟩, q7⟩ := hk
  refine ⟨by simp only [covers, Bool.and_eq_true, decide_eq_true_eq]; exact q1, q2, List.mem_filter.mpr ⟨List.contains_iff_mem.mp q3, rfl⟩, List.mem_filter.mpr ⟨List.contains_iff_mem.mp q4, rfl⟩, q5, q6, ?_⟩
  split at q7
  · rename_i q hq
    simp only [Bool.and_eq_true, beq_iff_eq] at q7
    exact Or.inl ⟨q, hq, q7.1, q7.2⟩
  · rename_i q hq
    simp only [Bool.and_eq_true, beq_iff_eq] at q7
    obtain ⟨rfl, q8⟩ := q7
    exact Or.inr ⟨hq, q8⟩
  · cases q7
/-- caught: it goes on behind the handler's astore -/
theorem kg_catch {stk rest : List Value} {E : String} {x : Nat × Nat × Nat × Nat} {pc2 k : Nat} (pre suf : List (Nat × Nat × Nat × Nat)) (hh : khh M = pre ++ x :: suf) (hru : kRunsTo r M pc ls stk rest h (.inr E) h1) (hup : kup h h1) (hk : kokh M pc x E pc2 k = true)
    (hpass : ∀ z ∈ pre, z.2.2.2 ≠ 0 ∧ ∃ nm, Cond.classLink (kown M) z.2.2.2 nm ∈ kgw ∧ ((E = kNE ∧ nm = kIA) ∨ (E = kIA ∧ nm = kNE))) : kGo r M pc ls stk h pc2 ((kcl ls k).set k none) [] h1 := by
  refine ⟨hup, ?_⟩
  intro p l e R s m args below meth c H locs cells slots A D cA b L xs ad jls c0 s0 Q S Dy hc0 hs0 hC hS kk
  have hu := hup
  obtain ⟨hu1, hu2, hu3⟩ := hu
  have hrun := hru p l e R s m args below meth c H locs cells slots A D cA b L xs ad jls S Dy (by omega) (by omega)
  obtain ⟨hx, hb, hml, hown, hts, hE, -, -, -, htab, -, -, -, hA⟩ := S
  obtain ⟨d1, d2, d3, d4, d5, d6, d7, d8⟩ := Dy
  obtain ⟨k1, k2, k3, k4, k5, k6, k7⟩ := kokh_spec hk
  refine k_after_thr (A := A) hrun d3 (kA_sub d2 d3 hA) (fun H1 locs1 ad1 q ce he hP1 hD1 hwf1 hS1 hce hcv hcl => ?_)
  refine vx_catch (own := kown M) (name := E) hown (tableOf pre) ⟨x.1, x.2.1, x.2.2.1, x.2.2.2⟩ (tableOf suf) (by rw [htab, hh]; simp [tableOf]) (fun z hz => ?_) k1 k2 (hts _ k3) (va_Nw.use rfl (hE.2.1 _ k4)) hce hcv hcl ?_
  · obtain ⟨z0, hz0, rfl⟩ := List.mem_map.mp hz
    obtain ⟨p1, nm, p2, p3⟩ := hpass z0 hz0
    refine Or.inr ⟨p1, nm, hts _ p2, ?_⟩
    rcases p3 with ⟨rfl, rfl⟩ | ⟨rfl, rfl⟩
    · exact hE.2.2.2.2.1
    · exact hE.2.2.2.1
  · have fin : ∀ jls2, lv_has jls2 (kml M) ((k, .ref q) :: (kls b ad ls).filter (fun q => !(q.1 == k) && !(q.1 + 1 == k && q.2.category == 2))) → W p l e R s m args below meth c H1 locs1 (cells + (kC h1 - kC h)) (slots + (kS h1 - kS h)) Q (F0 m pc2 jls2 []) := by
      intro jls2 hl2
      refine kk H1 locs1 jls2 ad1 (cells + (kC h1 - kC h)) (slots + (kS h1 - kS h)) ⟨hP1, hD1, hS1, by rw [List.length_set, kcl_len, d4], ?_, hwf1, fun i v hv => ?_, fun v hv => (by cases hv)⟩ he (by omega) (by omega)
      · have h2 := kls_cln (b := b) (ad := ad) d7 hl2
        rw [kls_ext (n := kN h) (fun i v hv => d7 i v (kcln_get hv).2.1) he]
        exact h2
      · exact kvl_mono (d7 i v (kcln_get hv).2.1) hu1
    rcases k7 with ⟨f4, dd, e1, rfl⟩ | ⟨dd, rfl⟩
    · exact lv_astore_n hx hb dd e1 d5 k5 rfl fin
    · exact lv_astore hx hb dd d5 k5 rfl fin
/-! the start of a method -/
def kl1 (vs : List Value) : List (Option Value) := match vs with
  | [] => []
  | .long x :: r => some (.long x) :: none :: kl1 r
  | v :: r => some v :: kl1 r
def klay (n : Nat) (vs : List Value) : List (Option Value) := kl1 vs ++ List.replicate (n - (kl1 vs).length) none
theorem kl1_len {k b : Nat} {ad : Nat → Nat} : ∀ (vs : List Value), (∀ v ∈ vs, kvl k v) → (lg_sl (vs.map (ktr b ad))).length = (kl1 vs).length
  | [], _ => rfl
  | v :: vs, hv => by
    have ih := kl1_len (b := b) (ad := ad) vs (fun w hw => hv w (List.mem_cons_of_mem _ hw))
    have h0 := hv v List.mem_cons_self
    simp only [lg_sl] at ih ⊢
    cases v with
    | int x => simp [kl1, ktr, Value.category, List.flatMap_cons] at ih ⊢; omega
    | long x => simp [kl1, ktr, Value.category, List.flatMap_cons] at ih ⊢; omega
    | ref x => simp [kl1, ktr, Value.category, List.flatMap_cons] at ih ⊢; omega
    | null => simp [kl1, ktr, Value.category, List.flatMap_cons] at ih ⊢; omega
    | _ => exact absurd h0 id
theorem kl1_at {b n : Nat} {ad : Nat → Nat} : ∀ (vs : List Value) (i0 i : Nat) (v : Value), (∀ v ∈ vs, kvl n v) → (kl1 vs)[i]? = some (some v) → (i0 + i, ktr b ad v) ∈ lv_args i0 (vs.map (ktr b ad)) ∧ kvl n v
  | [], i0, i, v, _, hi => by simp [kl1] at hi
  | w :: vs, i0, i, v, hv, hi => by
    have hw := hv w List.mem_cons_self
    have hr : ∀ v ∈ vs, kvl n v := fun u hu => hv u (List.mem_cons_of_mem _ hu)
    simp only [List.map_cons, lv_args]
    cases w with
    | long x =>
      match i, hi with
      | 0, hi => simp [kl1] at hi; subst hi; exact ⟨by simp [ktr], trivial⟩
      | 1, hi => simp [kl1] at hi
      | i + 2, hi =>
        simp only [kl1, List.getElem?_cons_succ] at hi
        obtain ⟨h1, h2⟩ := kl1_at vs (i0 + 2) i v hr hi
        refine ⟨List.mem_cons_of_mem _ ?_, h2⟩
        rw [show i0 + (i + 2) = i0 + 2 + i by omega]
        simpa [ktr, Value.category] using h1
    | int x =>
      match i, hi with
      | 0, hi => simp [kl1] at hi; subst hi; exact ⟨by simp [ktr], trivial⟩
      | i + 1, hi =>
        simp only [kl1, List.getElem?_cons_succ] at hi
        obtain ⟨h1, h2⟩ := kl1_at vs (i0 + 1) i v hr hi
        refine ⟨List.mem_cons_of_mem _ ?_, h2⟩
        rw [show i0 + (i + 1) = i0 + 1 + i by omega]
        simpa [ktr, Value.category] using h1
    | ref x =>
      match i, hi with
      | 0, hi => simp [kl1] at hi; subst hi; exact ⟨by simp [ktr], hw⟩
      | i + 1, hi =>
        simp only [kl1, List.getElem?_cons_succ] at hi
        obtain ⟨h1, h2⟩ := kl1_at vs (i0 + 1) i v hr hi
        refine ⟨List.mem_cons_of_mem _ ?_, h2⟩
        rw [show i0 + (i + 1) = i0 + 1 + i by omega]
        simpa [ktr, Value.category] using h1
    | null =>
      match i, hi with
      | 0, hi => simp [kl1] at hi; subst hi; exact ⟨by simp [ktr], trivial⟩
      | i + 1, hi =>
        simp only [kl1, List.getElem?_cons_succ] at hi
        obtain ⟨h1, h2⟩ := kl1_at vs (i0 + 1) i v hr hi
        refine ⟨List.mem_cons_of_mem _ ?_, h2⟩
        rw [show i0 + (i + 1) = i0 + 1 + i by omega]
        simpa [ktr, Value.category] using h1
    | _ => exact absurd hw id
theorem klay_at {nL i : Nat} {vs : List Value} {v : Value} (hi : (klay nL vs)[i]? = some (some v)) : (kl1 vs)[i]? = some (some v) := by
  unfold klay at hi
  by_cases hl : i < (kl1 vs).length
  · rwa [List.getElem?_append_left hl] at hi
  · rw [List.getElem?_append_right (by omega), List.getElem?_replicate] at hi
    split at hi <;> cases hi
theorem kentry {b n nL : Nat} {ad : Nat → Nat} {vs : List Value} (hv : ∀ v ∈ vs, kvl n v) (hn : (kl1 vs).length ≤ nL) : lv_has ((lg_sl (vs.map (ktr b ad)) ++ List.replicate (nL - (lg_sl (vs.map (ktr b ad))).length) Slot.unset).toArray) nL (kls b ad (klay nL vs)) := by
  have h0 := lv_entry (vs.map (ktr b ad)) (n := nL) (by rw [kl1_len vs hv]; exact hn)
  refine ⟨h0.1, h0.2.1, fun q hq => h0.2.2 q ?_⟩
  obtain ⟨v, h1, h2⟩ := kls_mem.mp hq
  obtain ⟨i, w⟩ := q
  simp only at h1 h2
  subst h2
  have := (kl1_at (b := b) (ad := ad) vs 0 i v hv (klay_at h1)).1
  rwa [Nat.zero_add] at this
theorem klay_len {nL : Nat} {vs : List Value} (hn : (kl1 vs).length ≤ nL) : (klay nL vs).length = nL := by
  simp [klay]; omega
theorem kbody {vs : List Value} {o : KO} {h' : KH} (k : kEx r M 0 (klay (kml M) vs) [] h o h') (hn : (kl1 vs).length ≤ kml M) {l : Launch} {D : va_G} {cA : Nat → ClassId} {ad : Nat → Nat} {b L : Nat} {xs : Nat → Int32} {sz : Nat} (hl : l.stackTraces = false) (hv : ∀ v ∈ vs, kvl (kN h) v) (hwf : kwf L xs h) {w : Cond} (hw : w ∈ kgw)
    {p : Program} {e : Env} {s s₁ : State} {m : MethodId} {args : Array Value} {below : List Frame} {meth : Method} {c : Code} (B : BodyLoose p l (kyn M) (headSpec (w :: kgw) (krm r (kC h' - kC h) (kS h' - kS h))) (kby M) (kml M) (krt M) e s m args below meth c s₁) (hml : c.maxLocals = kml M) (ho : kown M = (kyn M).cls) (htab : c.exceptionTable.toList = tableOf (khh M)) (hP : kPc b L xs D cA ad h sz vs args s) :
    W p l e (headSpec (w :: kgw) (krm r (kC h' - kC h) (kS h' - kS h))).room s m args below meth c s.heap [] 0 0 (vx_MQ below (kQc (kN h) b L xs (va_A (kwld cA ad h) sz) D cA ad o h') (kXC (kN h) b L xs (va_A (kwld cA ad h) sz) D cA ad o h') args s (kC h' - kC h) (kS h' - kS h) (va_A (kwld cA ad h) sz)) (entryFrame m args (kml M)) := by
  obtain ⟨rfl, hsz, hP1, hD1, hE⟩ := hP
  subst hsz
  have hts : ∀ w ∈ kgw, w.before (vs.map (ktr b ad)).toArray s = true := fun u hu => atoms_spec (ws := w :: kgw) B.pre u (List.mem_cons_of_mem _ hu)
  have hown : s.vm.findClass (kown M) = some m.cls := by rw [ho]; exact findClass_of_methodNamed B.named
  have hin : (kyn M).name = "<init>" → meth.name = "<init>" := fun q => (name_of_methodNamed B.named B.method).1.trans q
  rw [lg_entry_eq]
  have hk := k.2.2 p l e (headSpec (w :: kgw) (krm r (kC h' - kC h) (kS h' - kS h))).room s m (vs.map (ktr b ad)).toArray below meth c s.heap [] 0 0 (va_A (kwld cA ad h) s.heap.size) D cA b L xs ad ad
    ((lg_sl (vs.map (ktr b ad)) ++ List.replicate (kml M - (lg_sl (vs.map (ktr b ad))).length) Slot.unset).toArray) (kN h) (kC h) (kS h) (kC h' - kC h) (kS h' - kS h)
    ⟨B.exec, B.bytes, hml, hown, hts, hE, hl, B.returns, B.notSynchronized, htab, hin, Nat.le_refl _, Nat.le_refl _, fun q hq => Or.inr hq⟩
    ⟨hP1, hD1.self, va_S.rf, klay_len hn, kentry hv hn, hwf, fun i v hi => (kl1_at (b := b) (ad := ad) vs 0 i v hv (klay_at hi)).2, fun v hv => (by cases hv)⟩
    (kext_rf _ _) (Nat.le_refl _) (by omega) (by omega) (by have := k.1.2.1; omega) (by have := k.1.2.2; omega) (Nat.le_refl _) (Nat.le_refl _)
  exact hk
theorem kCalls_of {vs : List Value} {ix : Nat} {Q : KO → KH → Prop} (hok : kok M = true) (hh0 : khh M = []) (wi : kin ix (.code (kyn M) (kby M) (kml M) (krt M)) = true) (hn : (kl1 vs).length ≤ kml M) (k : kRun r M 0 (klay (kml M) vs) [] h Q) : kCalls r (kyn M) vs h Q := by
  obtain ⟨o, h', k1, k2⟩ := k
  simp only [kok, Bool.and_eq_true, decide_eq_true_eq] at hok
  obtain ⟨⟨⟨q1, q2⟩, q3⟩, q4⟩ := hok
  refine ⟨o, h', k1.1, k1.2.1, ⟨kby M, kml M, krt M, kin_mem wi, q1, ?_⟩, k2⟩
  intro l D cA ad b L xs sz hl hv hwf
  refine vx_ofW (cc := kby M) (maxL := kml M) (ret := krt M) q4 rfl ?_
  intro p e s m args below meth c s₁ B hml hno hP
  refine kbody k1 hn hl hv hwf (kin_mem wi) B hml q3 ?_ hP
  rw [hh0]
  cases hc : c.exceptionTable.toList with
  | nil => rfl
  | cons x r => exact absurd (hno x (by rw [hc]; exact List.mem_cons_self)) id
theorem kCallsW_of {vs : List Value} {ix : Nat} {Q : KO → KH → Prop} (hok : kok M = true) (wi : kin ix (.codeWith (kyn M) (kby M) (kml M) (krt M) (khh M)) = true) (hn : (kl1 vs).length ≤ kml M) (k : kRun r M 0 (klay (kml M) vs) [] h Q) : kCallsW r (kyn M) vs h Q := by
  obtain ⟨o, h', k1, k2⟩ := k
  simp only [kok, Bool.and_eq_true, decide_eq_true_eq] at hok
  obtain ⟨⟨⟨q1, q2⟩, q3⟩, q4⟩ := hok
  refine ⟨o, h', k1.1, k1.2.1, ⟨kby M, kml M, krt M, khh M, kin_mem wi, q1, ?_⟩, k2⟩
  intro l D cA ad b L xs sz hl hv hwf
  refine vx_ofWH (cc := kby M) (maxL := kml M) (ret := krt M) (hh := khh M) q4 rfl ?_
  intro p e s m args below meth c s₁ B hml hP
  exact kbody k1 hn hl hv hwf (kin_mem wi) B hml q3 (vx_table (x := kyn M) B (atoms_spec (ws := Cond.codeWith (kyn M) (kby M) (kml M) (krt M) (khh M) :: kgw) B.pre _ List.mem_cons_self)) hP
end KG

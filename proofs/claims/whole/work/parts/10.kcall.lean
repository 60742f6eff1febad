theorem kgw_good {w : Cond} (h : w ∈ kgw) : (w.onTables && w.keeps) = true ∨ ∃ ty, w = .arrayClass ty := good_of_word (List.mem_filter.mp h).2
theorem kgw_code {w : Cond} (h : w ∈ kgw) : ∀ u ∈ w :: kgw, u ∈ kgw := fun _ hu => (List.mem_cons.mp hu).elim (fun e => by rw [e]; exact h) id
theorem kgw_in {ws : List Cond} (h : ∀ w ∈ ws, w ∈ kgw) : GoodIn kgw ws := fun w hw => ⟨h w hw, kgw_good (h w hw)⟩
theorem kew_mv {w : Cond} {s U : State} (hw : w ∈ kew) (hW : s.WarmedH U.vm) (h : va_Nw w s) : va_Nw w U := by
  have h0 := (List.mem_filter.mp hw).2
  simp only [kewB, Bool.and_eq_true, Bool.or_eq_true] at h0
  obtain ⟨h1, h2 | h2⟩ := h0
  · exact va_tabs h1 (rfl : (s.setVm U.vm).vm = U.vm) (Cond.before_shiftedFace (State.Shifted.of_warmed hW) w h2 h)
  · split at h2
    · exact va_Nw.warmM hW h
    · cases h2
/-- what is carried, at the start of a call -/
theorem kEnv_call {b L : Nat} {xs : Nat → Int32} {A B : Nat → Prop} {D : va_G} {cA : Nat → ClassId} {s U : State} {H : Heap} {locs : List Loc} (h : kEnv b L xs A D cA s) (hS : va_S A s.heap H locs) (hAB : ∀ q, B q → A q) (hU : U.heap = H) (hW : s.WarmedH U.vm) : kEnv b L xs B D cA U := by
  obtain ⟨e1, e2, e3, e4, e5, e6, e7, e8, e9, e10⟩ := h
  have hkeep : ∀ a : Nat, a < s.heap.size → ¬ A a → U.heap[a]? = s.heap[a]? := fun a h1 h2 => by rw [hU]; exact hS.2.1 a h1 h2
  refine ⟨va_K.moved hW.alike e1, fun w hw => kew_mv hw hW (e2 w hw), fun q hq => ?_, va_Nc.moved hW.alike e4, va_Nc.moved hW.alike e5, va_X.moved hW.alike (va_X.kept e6 (hkeep b e7 e8)), by rw [hU]; exact Nat.lt_of_lt_of_le e7 hS.1, fun q => e8 (hAB b q), ?_, ?_⟩
  · obtain ⟨sa, hsa⟩ := e3 q hq
    exact ⟨sa, vk_R.warm hW hsa⟩
  · exact vx_Zq.narrow (vx_Zq.moved hW.alike (vx_Zq.kept e9 hkeep)) hAB
  · exact vx_Zq.narrow (vx_Zq.moved hW.alike (vx_Zq.kept e10 hkeep)) hAB
theorem kPc_blind {b L : Nat} {xs : Nat → Int32} {D : va_G} {cA : Nat → ClassId} {ad : Nat → Nat} {h : KH} {sz : Nat} {vs : List Value} : FrameBlind (kPc b L xs D cA ad h sz vs) := by
  intro a U g mk ⟨q1, q2, q3, q4, q5⟩
  exact ⟨q1, q2, q3, q4, kEnv_call (U := U.calling g mk a) q5 va_S.rf (fun _ q => q) rfl (State.WarmedH.refl U)⟩
theorem kcat_sum {b : Nat} {ad : Nat → Nat} : ∀ (st : List Value), ((st.map (ktr b ad)).map fun v => v.category).sum ≤ kcat st
  | [] => Nat.le_refl _
  | v :: st => by
    have ih := kcat_sum (b := b) (ad := ad) st
    simp only [List.map_cons, List.sum_cons]
    generalize ((st.map (ktr b ad)).map fun v => v.category).sum = z at ih ⊢
    cases v <;> simp only [kcat, ktr, Value.category] <;> omega
section KC
variable {p : Program} {l : Launch} {e : Env} {R : Room} {s : State} {m : MethodId} {args : Array Value} {below : List Frame} {meth : Method} {c : Code} {H : Heap} {locs : List Loc} {cells slots mc ms : Nat} {Q : State → Prop} {pc : Nat} {jls : Array Slot} {stk rest : List Value}
variable {n b L : Nat} {xs : Nat → Int32} {A A1 : Nat → Prop} {D : va_G} {cA : Nat → ClassId} {ad : Nat → Nat} {h1 : KH} {a : Array Value}
theorem k_after_ret {v : Option Value} (hrun : vx_Run p l e R s m args below meth c H locs cells slots mc ms (F0 m pc jls stk) rest (kQc n b L xs A1 D cA ad (.inl v) h1 a) (kXC n b L xs A1 D cA ad (.inl v) h1) A1) (hS : va_S A s.heap H locs) (hA : ∀ q, A1 q → A q)
    (kk : ∀ (H1 : Heap) (locs1 : List Loc) (ad1 : Nat → Nat), kext n ad ad1 → va_P D vwCl (kwld cA ad1 h1) H1 → va_D A (kwld cA ad1 h1) → kwf L xs h1 → va_S A s.heap H1 locs1 → W p l e R s m args below meth c H1 locs1 (cells + mc) (slots + ms) Q (F0 m (pc + 3) jls (v.toList ++ rest))) : W p l e R s m args below meth c H locs cells slots Q (F0 m pc jls stk) := by
  intro T hT X
  rcases hrun T hT X with ⟨v', st₀, t, T', L9, h0, X', hL, e1, e2, ⟨⟨w, hw, hw2, ad', he, hP, hD, hwf⟩, hF⟩, st⟩ | ⟨q, st₀, t, T', L9, E, ce, h0, X', hL, e1, e2, ⟨hx, -⟩, -⟩
  · cases hw
    cases hw2
    obtain ⟨t2, a1, b1⟩ := kk T'.heap (locs ++ L9) ad' he (by rw [e1]; exact hP) (hD.weaken (fun _ q _ z => hA q.1 z)) hwf (vx_keep h0 e1 hS (fun q _ z => hA q z) hA hL hF).2.2 T' rfl X'
    exact ⟨t2, st t2 a1, b1⟩
  · cases hx
theorem k_after_thr {E0 : String} (hrun : vx_Run p l e R s m args below meth c H locs cells slots mc ms (F0 m pc jls stk) rest (kQc n b L xs A1 D cA ad (.inr E0) h1 a) (kXC n b L xs A1 D cA ad (.inr E0) h1) A1) (hS : va_S A s.heap H locs) (hA : ∀ q, A1 q → A q)
    (kk : ∀ (H1 : Heap) (locs1 : List Loc) (ad1 : Nat → Nat) (q : Addr) (ce : Cell), kext n ad ad1 → va_P D vwCl (kwld cA ad1 h1) H1 → va_D A (kwld cA ad1 h1) → kwf L xs h1 → va_S A s.heap H1 locs1 → H1[q]? = some ce → ce.vm = .none → s.vm.findClass E0 = some ce.cls → vx_W p l e R s m args below meth c H1 locs1 (cells + mc) (slots + ms) Q (F0 m pc jls rest) q) : W p l e R s m args below meth c H locs cells slots Q (F0 m pc jls stk) := by
  intro T hT X
  rcases hrun T hT X with ⟨v', st₀, t, T', L9, h0, X', hL, e1, e2, ⟨⟨w, hw, -⟩, -⟩, -⟩ | ⟨q, st₀, t, T', L9, E, ce, h0, X', hL, e1, e2, ⟨hx, ⟨ad', he, hP, hD, hwf⟩, hF⟩, hce, hcv, hcl, st⟩
  · cases hw
  · cases hx
    obtain ⟨t2, a1, b1⟩ := kk T'.heap (locs ++ L9) ad' q ce he (by rw [e1]; exact hP) (hD.weaken (fun _ q _ z => hA q.1 z)) hwf (vx_keep h0 e1 hS (fun q _ z => hA q z) hA hL hF).2.2 (by rw [e1]; exact hce) hcv hcl T' rfl X'
    exact ⟨t2, st.trans a1, b1⟩
theorem vx_of_va {Qa : State → Outcome → State → Prop} {XC : String → State → State → Prop} {free : Addr → Prop} {g : JFrame} (h : va_Run p l e R s m args below meth c H locs cells slots mc ms g rest Qa free) : vx_Run p l e R s m args below meth c H locs cells slots mc ms g rest Qa XC free := fun T hT X => Or.inl (h T hT X)
end KC
/-- a callee that doesn't throw -/
theorem k_noThrow {l : Launch} {y : MethodName} {ws : List Cond} {rm : Room} {Pc : Array Value → State → Prop} {Qc : Array Value → State → Outcome → State → Prop} {XC : String → State → State → Prop} {mc ms : Nat} {free : Addr → Prop} (h : vx_Met l y ws rm Pc Qc XC mc ms free) (hx : ∀ E st t, ¬ XC E st t) : Met l y ws rm Pc Qc mc ms free := by
  refine MetFree.mono h (fun _ _ q => q) (fun _ _ _ _ _ q => q) (fun a st o t _ q => ?_)
  rcases q with q | ⟨q, -, E, ce, L, hq, -⟩
  · exact q
  · exact absurd hq (hx E _ _)
section KD
variable {r : Nat} {M : KM} {pc : Nat} {ls : List (Option Value)} {st : List Value} {h h1 : KH}
/-- the calls, by their kinds: what each runs to -/
def kRunsTo (r : Nat) (M : KM) (pc : Nat) (ls : List (Option Value)) (stk : List Value) (rest : List Value) (h : KH) (o : KO) (h1 : KH) : Prop :=
  ∀ (p : Program) (l : Launch) (e : Env) (R : Room) (s : State) (m : MethodId) (args : Array Value) (below : List Frame) (meth : Method) (c : Code) (H : Heap) (locs : List Loc) (cells slots : Nat) (A : Nat → Prop) (D : va_G) (cA : Nat → ClassId) (b L : Nat) (xs : Nat → Int32) (ad : Nat → Nat) (jls : Array Slot),
    kSt r M p l R s m args meth c A D cA b L xs → kDy M s A D cA b L xs ad h ls stk H locs jls → cells + (kC h1 - kC h) ≤ R.cells → slots + (kS h1 - kS h) ≤ R.slots →
    vx_Run p l e R s m args below meth c H locs cells slots (kC h1 - kC h) (kS h1 - kS h) (F0 m pc jls (stk.map (ktr b ad))) (rest.map (ktr b ad)) (kQc (kN h) b L xs (va_A (kwld cA ad h) H.size) D cA ad o h1 #[]) (kXC (kN h) b L xs (va_A (kwld cA ad h) H.size) D cA ad o h1) (va_A (kwld cA ad h) H.size)
theorem kA_sub {A : Nat → Prop} {cA : Nat → ClassId} {ad : Nat → Nat} {s : State} {H : Heap} {locs : List Loc} (hD : va_D A (kwld cA ad h)) (hS : va_S A s.heap H locs) (hA : ∀ q, s.heap.size ≤ q → A q) : ∀ q, va_A (kwld cA ad h) H.size q → A q := by
  intro q hq
  rcases hq with ⟨k, e, hq⟩ | hq
  · exact hD.2 k (q, e) hq
  · exact hA q (Nat.le_trans hS.1 hq)
theorem kGo_call {stk rest : List Value} {v : Option Value} (hru : kRunsTo r M pc ls stk rest h (.inl v) h1) (hup : kup h h1) (hv : ∀ w, (Sum.inl v : KO) = .inl (some w) → kpl1 w) (hr : ∀ w ∈ rest, w ∈ stk) : kGo r M pc ls stk h (pc + 3) ls (v.toList ++ rest) h1 := by
  refine ⟨hup, ?_⟩
  intro p l e R s m args below meth c H locs cells slots A D cA b L xs ad jls c0 s0 Q S Dy hc0 hs0 hC hS kk
  have hu := hup
  obtain ⟨hu1, hu2, hu3⟩ := hu
  have hrun := hru p l e R s m args below meth c H locs cells slots A D cA b L xs ad jls S Dy (by omega) (by omega)
  obtain ⟨hx, hb, -, hown, hts, hE, -, -, -, -, -, -, -, hA⟩ := S
  obtain ⟨d1, d2, d3, d4, d5, d6, d7, d8⟩ := Dy
  refine k_after_ret (A := A) hrun d3 (kA_sub d2 d3 hA) (fun H1 locs1 ad1 he hP1 hD1 hwf1 hS1 => ?_)
  have hrest : ∀ w ∈ rest, kvl (kN h) w := fun w hw => d8 w (hr w hw)
  have hk := kk H1 locs1 jls ad1 (cells + (kC h1 - kC h)) (slots + (kS h1 - kS h)) ⟨hP1, hD1, hS1, d4, by rw [kls_ext d7 he]; exact d5, hwf1, fun i w hw => kvl_mono (d7 i w hw) hu1, fun w hw => ?_⟩ he (by omega) (by omega)
  · rw [List.map_append, ktr_map hrest he] at hk
    have hv2 : v.toList.map (ktr b ad1) = v.toList := by
      cases v with
      | none => rfl
      | some w =>
        have := hv w rfl
        cases w <;> first | rfl | exact absurd this id
    rw [hv2] at hk
    exact hk
  · rcases List.mem_append.mp hw with hw | hw
    · cases v with
      | none => cases hw
      | some u =>
        cases (List.mem_singleton.mp hw : w = u)
        have := hv w rfl
        cases w <;> first | trivial | exact absurd this id
    · exact kvl_mono (hrest w hw) hu1
/-- it leaves the method too -/
theorem kEx_out {stk rest : List Value} {E : String} (hru : kRunsTo r M pc ls stk rest h (.inr E) h1) (hup : kup h h1) (hno : khh M = []) : kEx r M pc ls stk h (.inr E) h1 := by
  refine ⟨hup, fun v hv => (by cases hv), ?_⟩
  intro p l e R s m args below meth c H locs cells slots A D cA b L xs ad ad0 jls n0 c0 s0 mc ms S Dy hext hn0 hc0 hs0 hmc hms hRc hRs
  have hu := hup
  obtain ⟨hu1, hu2, hu3⟩ := hu
  have hrun := hru p l e R s m args below meth c H locs cells slots A D cA b L xs ad jls S Dy (by omega) (by omega)
  obtain ⟨hx, hb, -, hown, hts, hE, -, -, hlocks, htab, -, -, -, hA⟩ := S
  obtain ⟨d1, d2, d3, d4, d5, d6, d7, d8⟩ := Dy
  refine k_after_thr (A := A) hrun d3 (kA_sub d2 d3 hA) (fun H1 locs1 ad1 q ce he hP1 hD1 hwf1 hS1 hce hcv hcl => ?_)
  refine vx_out (fun x hx => ?_) hlocks hce hcv hcl (fun t ht _ => ⟨rfl, ⟨ad1, kext_tr hext hn0 he, by rw [ht]; exact hP1, hD1, hwf1⟩, hS1.F ht⟩) hS1.2.2 (by omega) (by omega)
  rw [htab, hno] at hx
  cases hx
end KD
section KE
variable {r : Nat} {M : KM} {pc : Nat} {ls : List (Option Value)} {st : List Value} {h h1 : KH}
theorem kPre {b L : Nat} {xs : Nat → Int32} {A : Nat → Prop} {D : va_G} {cA : Nat → ClassId} {ad : Nat → Nat} {s : State} {H : Heap} {locs : List Loc} {jls : Array Slot} {vs stk : List Value} (hE : kEnv b L xs A D cA s) (hA : ∀ q, s.heap.size ≤ q → A q) (Dy : kDy M s A D cA b L xs ad h ls stk H locs jls) :
    PreS s H (kPc b L xs D cA ad h H.size vs) (vs.map (ktr b ad)) := by
  obtain ⟨d1, d2, d3, d4, d5, d6, d7, d8⟩ := Dy
  exact ⟨kPc_blind, fun U hU hW => ⟨rfl, by rw [hU], by rw [hU]; exact d1, d2.weaken (fun _ _ _ _ => trivial), kEnv_call hE d3 (kA_sub d2 d3 hA) hU hW⟩⟩
theorem kroom {r : Nat} {R : Room} {maxL mc ms : Nat} (hr : 2 ≤ r) (hm : maxL ≤ 40) (h1 : r ≤ R.frames) (h2 : 60 * r ≤ R.locals) : (krm (r - 1) mc ms).frames + 1 ≤ R.frames ∧ 8 + (maxL + 11) + (krm (r - 1) mc ms).locals ≤ R.locals := by
  simp only [krm]
  omega
theorem kcallok {y : MethodName} {n : Nat} (hp : kplain y = true) (ha : karity y = some n) : y.cls ≠ "java/lang/invoke/MethodHandle" ∧ y.cls ≠ "java/lang/invoke/VarHandle" ∧ (parseMethodDescriptor y.desc).map (fun d => d.parameters.length) = some n := by
  simp only [kplain, Bool.and_eq_true, decide_eq_true_eq] at hp
  exact ⟨hp.1, hp.2, ha⟩
theorem kru_virtual {a ci ix maxL n : Nat} {y : MethodName} {bytes : ByteArray} {ret : Option FieldType} {as : List Value} {o : KO} (d : decode (kby M) pc = .ok (.invokevirtual ix, 3)) (hp : kplain y = true) (ha : karity y = some n) (hn : as.length = n) (hc : ci < 13) (hcl : y.cls = kcls ci) (hk : kK h a = (0, ci)) (hst : kcat st ≤ 8) (hr : 2 ≤ r)
    (w1 : Cond.methodLink (kown M) ix y ∈ kgw) (w2 : Cond.instanceMethod y ∈ kgw) (w3 : Cond.selects (kcls ci) y y ∈ kgw) (w4 : Cond.initialized y.cls ∈ kgw) (wc : Cond.code y bytes maxL ret ∈ kgw) (hm : maxL ≤ 40) (hM : kMet (r - 1) y (Cond.code y bytes maxL ret) (.ref a :: as) h o h1) :
    kRunsTo r M pc ls (as.reverse ++ .ref a :: st) st h o h1 := by
  intro p l e R s m args below meth c H locs cells slots A D cA b L xs ad jls S Dy hC hS
  obtain ⟨hx, hb, hml, hown, hts, hE, hl, -, -, -, -, hf1, hf2, hA⟩ := S
  have hall := Dy.2.2.2.2.2.2.2
  have hv : ∀ v ∈ Value.ref a :: as, kvl (kN h) v := fun v hv => hall v (by
    rcases List.mem_cons.mp hv with e | q
    · rw [e]; exact List.mem_append_right _ List.mem_cons_self
    · exact List.mem_append_left _ (List.mem_reverse.mpr q))
  have hM2 := hM l D cA ad b L xs H.size hl hv Dy.2.2.2.2.2.1
  have hav : kvl (kN h) (.ref a) := hv _ List.mem_cons_self
  have hg := kwld_get (cA := cA) (ad := ad) hav.1 hav.2
  rw [kcell_0 hk] at hg
  have hpre := kPre (vs := .ref a :: as) hE hA Dy
  have hrecv := va_recv hE.1 Dy.1 (kcl_at hc) hg
  have hok := kcallok hp ha
  have hcw := cwV (R := R) (s := s) (args := args) (own := kown M) (index := ix) (C := kcls ci) (y := y) (bytes := bytes) (maxL := maxL) (ret := ret) (ws := Cond.code y bytes maxL ret :: kgw) (rm := krm (r - 1) (kC h1 - kC h) (kS h1 - kS h)) (mc := kC h1 - kC h) (ms := kS h1 - kS h) n hts (kgw_in (fun w hw => by
    simp only [wsV, List.mem_append, List.mem_cons, List.not_mem_nil, or_false] at hw
    rcases hw with (rfl | rfl | rfl | rfl) | (rfl | hw)
    · exact w1
    · exact w2
    · exact w3
    · rw [← hcl]; exact w4
    · exact wc
    · exact hw)) rfl rfl rfl ⟨hcl, hok⟩ (kroom hr hm hf1 hf2)
  have hrun := vx_runV (e := e) (below := below) (meth := meth) (locs := locs) (cells := cells) (slots := slots) (As := as.map (ktr b ad)) (rest := st.map (ktr b ad)) (b := ad a) (g := F0 m pc jls ((as.reverse ++ .ref a :: st).map (ktr b ad))) ⟨hx, hb, hml, hown, hts⟩ hM2 hcw ⟨hpre.1, hrecv, hpre.2⟩ rfl (by rw [List.length_map]; exact hn) Dy.2.2.2.2.1.1 (by simp [ktr, List.map_reverse]) (lv_room (Nat.le_trans (kcat_sum st) hst)) d ⟨hC, hS⟩
  exact hrun
theorem kargs_v {as st : List Value} {n : Nat} (hall : ∀ v ∈ as.reverse ++ st, kvl n v) : ∀ v ∈ as, kvl n v := fun v hv => hall v (List.mem_append_left _ (List.mem_reverse.mpr hv))
theorem kru_static {ix maxL n : Nat} {y : MethodName} {bytes : ByteArray} {ret : Option FieldType} {as : List Value} {o : KO} (d : decode (kby M) pc = .ok (.invokestatic ix, 3)) (hp : kplain y = true) (ha : karity y = some n) (hn : as.length = n) (hst : kcat st ≤ 8) (hr : 2 ≤ r)
    (w1 : Cond.methodLink (kown M) ix y ∈ kgw) (w2 : Cond.static y ∈ kgw) (w4 : Cond.initialized y.cls ∈ kgw) (wc : Cond.code y bytes maxL ret ∈ kgw) (hm : maxL ≤ 40) (hM : kMet (r - 1) y (Cond.code y bytes maxL ret) as h o h1) :
    kRunsTo r M pc ls (as.reverse ++ st) st h o h1 := by
  intro p l e R s m args below meth c H locs cells slots A D cA b L xs ad jls S Dy hC hS
  obtain ⟨hx, hb, hml, hown, hts, hE, hl, -, -, -, -, hf1, hf2, hA⟩ := S
  have hM2 := hM l D cA ad b L xs H.size hl (kargs_v Dy.2.2.2.2.2.2.2) Dy.2.2.2.2.2.1
  have hpre := kPre (vs := as) hE hA Dy
  have hok := kcallok hp ha
  have hcw := va_cwS (R := R) (s := s) (args := args) (own := kown M) (index := ix) (y := y) (bytes := bytes) (maxL := maxL) (ret := ret) (ws := Cond.code y bytes maxL ret :: kgw) (rm := krm (r - 1) (kC h1 - kC h) (kS h1 - kS h)) (mc := kC h1 - kC h) (ms := kS h1 - kS h) n hts (kgw_in (fun w hw => by
    simp only [va_wsS, List.mem_append, List.mem_cons, List.not_mem_nil, or_false] at hw
    rcases hw with (rfl | rfl | rfl) | (rfl | hw)
    · exact w1
    · exact w2
    · exact w4
    · exact wc
    · exact hw)) rfl rfl rfl hok (kroom hr hm hf1 hf2)
  exact vx_runS (e := e) (below := below) (meth := meth) (locs := locs) (cells := cells) (slots := slots) (As := as.map (ktr b ad)) (rest := st.map (ktr b ad)) (g := F0 m pc jls ((as.reverse ++ st).map (ktr b ad))) ⟨hx, hb, hml, hown, hts⟩ hM2 hcw hpre rfl (by rw [List.length_map]; exact hn) Dy.2.2.2.2.1.1 (by simp [List.map_reverse]) (lv_room (Nat.le_trans (kcat_sum st) hst)) d ⟨hC, hS⟩
theorem kru_wrap {ix maxL n : Nat} {y : MethodName} {bytes : ByteArray} {ret : Option FieldType} {hh : List (Nat × Nat × Nat × Nat)} {as : List Value} {o : KO} (d : decode (kby M) pc = .ok (.invokestatic ix, 3)) (hp : kplain y = true) (ha : karity y = some n) (hn : as.length = n) (hst : kcat st ≤ 8) (hr : 2 ≤ r)
    (w1 : Cond.methodLink (kown M) ix y ∈ kgw) (w2 : Cond.static y ∈ kgw) (w4 : Cond.initialized y.cls ∈ kgw) (wc : Cond.codeWith y bytes maxL ret hh ∈ kgw) (hm : maxL ≤ 40) (hM : kMet (r - 1) y (Cond.codeWith y bytes maxL ret hh) as h o h1) :
    kRunsTo r M pc ls (as.reverse ++ st) st h o h1 := by
  intro p l e R s m args below meth c H locs cells slots A D cA b L xs ad jls S Dy hC hS
  obtain ⟨hx, hb, hml, hown, hts, hE, hl, -, -, -, -, hf1, hf2, hA⟩ := S
  have hM2 := hM l D cA ad b L xs H.size hl (kargs_v Dy.2.2.2.2.2.2.2) Dy.2.2.2.2.2.1
  have hpre := kPre (vs := as) hE hA Dy
  have hok := kcallok hp ha
  have hcw := vx_cwSW (R := R) (s := s) (args := args) (own := kown M) (index := ix) (y := y) (bytes := bytes) (maxL := maxL) (ret := ret) (hh := hh) (ws := Cond.codeWith y bytes maxL ret hh :: kgw) (rm := krm (r - 1) (kC h1 - kC h) (kS h1 - kS h)) (mc := kC h1 - kC h) (ms := kS h1 - kS h) n hts (kgw_in (fun w hw => by
    simp only [va_wsS, List.mem_append, List.mem_cons, List.not_mem_nil, or_false] at hw
    rcases hw with (rfl | rfl | rfl) | (rfl | hw)
    · exact w1
    · exact w2
    · exact w4
    · exact wc
    · exact hw)) rfl rfl rfl hok (kroom hr hm hf1 hf2)
  exact vx_runSX (e := e) (below := below) (meth := meth) (locs := locs) (cells := cells) (slots := slots) (As := as.map (ktr b ad)) (rest := st.map (ktr b ad)) (g := F0 m pc jls ((as.reverse ++ st).map (ktr b ad))) ⟨hx, hb, hml, hown, hts⟩ hM2 hcw hpre rfl (by rw [List.length_map]; exact hn) Dy.2.2.2.2.1.1 (by simp [List.map_reverse]) (lv_room (Nat.le_trans (kcat_sum st) hst)) d ⟨hC, hS⟩
theorem kXC_no {n b L : Nat} {xs : Nat → Int32} {A : Nat → Prop} {D : va_G} {cA : Nat → ClassId} {ad : Nat → Nat} {v : Option Value} {h' : KH} : ∀ E st t, ¬ kXC n b L xs A D cA ad (.inl v) h' E st t := fun E st t q => by cases q.1
theorem kru_init {a ix maxL n : Nat} {y : MethodName} {bytes : ByteArray} {as : List Value} {v : Option Value} (d : decode (kby M) pc = .ok (.invokespecial ix, 3)) (hp : kplain y = true) (ha : karity y = some n) (hn : as.length = n) (hy1 : y.name = "<init>") (hst : kcat st ≤ 8) (hr : 2 ≤ r)
    (w1 : Cond.methodLink (kown M) ix y ∈ kgw) (w2 : Cond.instanceMethod y ∈ kgw) (w4 : Cond.initialized y.cls ∈ kgw) (wc : Cond.code y bytes maxL none ∈ kgw) (hm : maxL ≤ 40) (hM : kMet (r - 1) y (Cond.code y bytes maxL none) (.ref a :: as) h (.inl v) h1) :
    kRunsTo r M pc ls (as.reverse ++ .ref a :: st) st h (.inl v) h1 := by
  intro p l e R s m args below meth c H locs cells slots A D cA b L xs ad jls S Dy hC hS
  obtain ⟨hx, hb, hml, hown, hts, hE, hl, -, -, -, -, hf1, hf2, hA⟩ := S
  have hall := Dy.2.2.2.2.2.2.2
  have hv : ∀ v ∈ Value.ref a :: as, kvl (kN h) v := fun v hv => hall v (by
    rcases List.mem_cons.mp hv with e | q
    · rw [e]; exact List.mem_append_right _ List.mem_cons_self
    · exact List.mem_append_left _ (List.mem_reverse.mpr q))
  have hM2 := k_noThrow (hM l D cA ad b L xs H.size hl hv Dy.2.2.2.2.2.1) kXC_no
  have hpre := kPre (vs := .ref a :: as) hE hA Dy
  have hok := kcallok hp ha
  have hcw := cwI (R := R) (s := s) (args := args) (own := kown M) (index := ix) (y := y) (bytes := bytes) (maxL := maxL) (ws := Cond.code y bytes maxL none :: kgw) (rm := krm (r - 1) (kC h1 - kC h) (kS h1 - kS h)) (mc := kC h1 - kC h) (ms := kS h1 - kS h) n hts (kgw_in (kgw_code wc)) rfl rfl rfl (hts _ w4) (hts _ w1) (hts _ w2) hy1 hok (kroom hr hm hf1 hf2)
  exact vx_of_va (va_runI (e := e) (below := below) (meth := meth) (locs := locs) (cells := cells) (slots := slots) (As := as.map (ktr b ad)) (rest := st.map (ktr b ad)) (b := ad a) (g := F0 m pc jls ((as.reverse ++ .ref a :: st).map (ktr b ad))) ⟨hx, hb, hml, hown, hts⟩ hM2 hcw hpre rfl (by rw [List.length_map]; exact hn) Dy.2.2.2.2.1.1 (by simp [ktr, List.map_reverse]) (lv_room (Nat.le_trans (kcat_sum st) hst)) d ⟨hC, hS⟩)
theorem kru_initN {a ix maxL n : Nat} {y : MethodName} {bytes : ByteArray} {as : List Value} {v : Option Value} {host : String} (d : decode (kby M) pc = .ok (.invokespecial ix, 3)) (hp : kplain y = true) (ha : karity y = some n) (hn : as.length = n) (hy1 : y.name = "<init>") (hst : kcat st ≤ 8) (hr : 2 ≤ r)
    (w1 : Cond.methodLinkNest (kown M) ix y host ∈ kew) (w2 : Cond.instanceMethod y ∈ kgw) (w4 : Cond.initialized y.cls ∈ kgw) (wc : Cond.code y bytes maxL none ∈ kgw) (hm : maxL ≤ 40) (hM : kMet (r - 1) y (Cond.code y bytes maxL none) (.ref a :: as) h (.inl v) h1) :
    kRunsTo r M pc ls (as.reverse ++ .ref a :: st) st h (.inl v) h1 := by
  intro p l e R s m args below meth c H locs cells slots A D cA b L xs ad jls S Dy hC hS
  obtain ⟨hx, hb, hml, hown, hts, hE, hl, -, -, -, -, hf1, hf2, hA⟩ := S
  have hall := Dy.2.2.2.2.2.2.2
  have hv : ∀ v ∈ Value.ref a :: as, kvl (kN h) v := fun v hv => hall v (by
    rcases List.mem_cons.mp hv with e | q
    · rw [e]; exact List.mem_append_right _ List.mem_cons_self
    · exact List.mem_append_left _ (List.mem_reverse.mpr q))
  have hM2 := k_noThrow (hM l D cA ad b L xs H.size hl hv Dy.2.2.2.2.2.1) kXC_no
  have hpre := kPre (vs := .ref a :: as) hE hA Dy
  have hok := kcallok hp ha
  have hcw := va_cnB (R := R) (s := s) (args := args) (own := kown M) (host := host) (index := ix) (y := y) (bytes := bytes) (maxL := maxL) (ret := none) (ws := Cond.code y bytes maxL none :: kgw) (rm := krm (r - 1) (kC h1 - kC h) (kS h1 - kS h)) (mc := kC h1 - kC h) (ms := kS h1 - kS h) n hts (kgw_in (kgw_code wc)) rfl rfl rfl (hE.2.1 _ w1) (hts _ w4) hok (kroom hr hm hf1 hf2)
  exact vx_of_va (va_runIN (e := e) (below := below) (meth := meth) (locs := locs) (cells := cells) (slots := slots) (As := as.map (ktr b ad)) (rest := st.map (ktr b ad)) (b := ad a) (g := F0 m pc jls ((as.reverse ++ .ref a :: st).map (ktr b ad))) ⟨hx, hb, hml, hown, hts⟩ hM2 ⟨hcw, hy1, hts _ w2⟩ hpre rfl (by rw [List.length_map]; exact hn) Dy.2.2.2.2.1.1 (by simp [ktr, List.map_reverse]) (lv_room (Nat.le_trans (kcat_sum st) hst)) d ⟨hC, hS⟩)
theorem kru_staticN {ix maxL n : Nat} {y : MethodName} {bytes : ByteArray} {ret : Option FieldType} {as : List Value} {v : Option Value} {host : String} (d : decode (kby M) pc = .ok (.invokestatic ix, 3)) (hp : kplain y = true) (ha : karity y = some n) (hn : as.length = n) (hst : kcat st ≤ 8) (hr : 2 ≤ r)
    (w1 : Cond.methodLinkNest (kown M) ix y host ∈ kew) (w2 : Cond.static y ∈ kgw) (w4 : Cond.initialized y.cls ∈ kgw) (wc : Cond.code y bytes maxL ret ∈ kgw) (hm : maxL ≤ 40) (hM : kMet (r - 1) y (Cond.code y bytes maxL ret) as h (.inl v) h1) :
    kRunsTo r M pc ls (as.reverse ++ st) st h (.inl v) h1 := by
  intro p l e R s m args below meth c H locs cells slots A D cA b L xs ad jls S Dy hC hS
  obtain ⟨hx, hb, hml, hown, hts, hE, hl, -, -, -, -, hf1, hf2, hA⟩ := S
  have hM2 := k_noThrow (hM l D cA ad b L xs H.size hl (kargs_v Dy.2.2.2.2.2.2.2) Dy.2.2.2.2.2.1) kXC_no
  have hpre := kPre (vs := as) hE hA Dy
  have hok := kcallok hp ha
  have hcw := va_cnB (R := R) (s := s) (args := args) (own := kown M) (host := host) (index := ix) (y := y) (bytes := bytes) (maxL := maxL) (ret := ret) (ws := Cond.code y bytes maxL ret :: kgw) (rm := krm (r - 1) (kC h1 - kC h) (kS h1 - kS h)) (mc := kC h1 - kC h) (ms := kS h1 - kS h) n hts (kgw_in (kgw_code wc)) rfl rfl rfl (hE.2.1 _ w1) (hts _ w4) hok (kroom hr hm hf1 hf2)
  exact vx_of_va (va_runSN (e := e) (below := below) (meth := meth) (locs := locs) (cells := cells) (slots := slots) (As := as.map (ktr b ad)) (rest := st.map (ktr b ad)) (g := F0 m pc jls ((as.reverse ++ st).map (ktr b ad))) ⟨hx, hb, hml, hown, hts⟩ hM2 ⟨hcw, hts _ w2, trivial⟩ hpre rfl (by rw [List.length_map]; exact hn) Dy.2.2.2.2.1.1 (by simp [List.map_reverse]) (lv_room (Nat.le_trans (kcat_sum st) hst)) d ⟨hC, hS⟩)
theorem kg_min {x y : Int32} {ix : Nat} (d : decode (kby M) pc = .ok (.invokestatic ix, 3)) (hst : kcat st ≤ 8) (hr : 2 ≤ r) (w1 : Cond.methodLink (kown M) ix Lib.Math.min.name ∈ kgw) (w2 : Cond.static Lib.Math.min.name ∈ kgw) (w3 : Cond.initialized "java/lang/Math" ∈ kgw) (w4 : Cond.code Lib.Math.min.name Lib.Math.min.code 2 (some .int) ∈ kgw) : kGo r M pc ls (.int y :: .int x :: st) h (pc + 3) ls (.int (if y < x then y else x) :: st) h := by
  refine ⟨kup_rf h, ?_⟩
  intro p l e R s m args below meth c H locs cells slots A D cA b L xs ad jls c0 s0 Q S Dy hc0 hs0 hC hS kk
  obtain ⟨hx, hb, hml, hown, hts, hE, -, -, -, -, -, hf1, hf2, -⟩ := S
  have hs := kcat_sum (b := b) (ad := ad) st
  exact va_mmin (rest := st.map (ktr b ad)) hx hb (hml.trans Dy.2.2.2.2.1.1.symm) hown (hts _ w1) (hts _ w2) (hts _ w3) (hts _ w4) (by omega) (by omega) (by omega) (by omega) d
    (kk H locs jls ad cells slots (kDy_stk Dy (kv_int _ (kv_tl (kv_tl Dy.2.2.2.2.2.2.2)))) (kext_rf _ _) hc0 hs0)
theorem kg_minL {x y : Int64} {ix : Nat} (d : decode (kby M) pc = .ok (.invokestatic ix, 3)) (hst : kcat st ≤ 8) (hr : 2 ≤ r) (w1 : Cond.methodLink (kown M) ix Lib.MathLoose.min_long.x ∈ kgw) (w2 : Cond.static Lib.MathLoose.min_long.x ∈ kgw) (w3 : Cond.initialized "java/lang/Math" ∈ kgw) (w4 : Cond.code Lib.MathLoose.min_long.x Lib.MathLoose.min_long.code 4 (some .long) ∈ kgw) : kGo r M pc ls (.long y :: .long x :: st) h (pc + 3) ls (.long (if y < x then y else x) :: st) h := by
  refine ⟨kup_rf h, ?_⟩
  intro p l e R s m args below meth c H locs cells slots A D cA b L xs ad jls c0 s0 Q S Dy hc0 hs0 hC hS kk
  obtain ⟨hx, hb, hml, hown, hts, hE, -, -, -, -, -, hf1, hf2, -⟩ := S
  have hs := kcat_sum (b := b) (ad := ad) st
  exact va_mmin_long (rest := st.map (ktr b ad)) hx hb (hml.trans Dy.2.2.2.2.1.1.symm) hown (hts _ w1) (hts _ w2) (hts _ w3) (hts _ w4) (by omega) (by omega) (by omega) (by omega) d
    (kk H locs jls ad cells slots (kDy_stk Dy (kv_long _ (kv_tl (kv_tl Dy.2.2.2.2.2.2.2)))) (kext_rf _ _) hc0 hs0)
theorem kg_objInit {a ix : Nat} (d : decode (kby M) pc = .ok (.invokespecial ix, 3)) (hst : kcat st ≤ 8) (hr : 2 ≤ r) (w1 : Cond.methodLink (kown M) ix Lib.objectInit ∈ kgw) (w2 : Cond.instanceMethod Lib.objectInit ∈ kgw) (w3 : Cond.code Lib.objectInit ⟨#[0xb1]⟩ 1 none ∈ kgw) : kGo r M pc ls (.ref a :: st) h (pc + 3) ls st h := by
  refine kGo_stk (fun h1 _ => kv_tl h1) ?_
  intro p l e R s m args below meth c H locs cells slots A D cA b L xs ad jls Q S Dy k
  obtain ⟨hx, hb, hml, hown, hts, hE, -, -, -, -, -, hf1, hf2, -⟩ := S
  have hs := kcat_sum (b := b) (ad := ad) st
  refine W.objInit (a := ad a) (rest := st.map (ktr b ad)) hx hb hown (hts _ w1) (hts _ w2) (hts _ w3) rfl (by rw [hml]; exact Dy.2.2.2.2.1.1) rfl d (by omega) ?_ k
  have h0 : 2 * (F0 m pc jls ((Value.ref a :: st).map (ktr b ad))).monitorRoom = 0 := rfl
  rw [h0]
  omega
end KE

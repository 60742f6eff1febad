/-! what stands at the law's entry -/
theorem kinst_ok : (List.range 13).all (fun ci => match vwCl[ci]? with | some q => lw_tbl.contains (.instantiable q.1 q.2.2) | none => false) = true := by decide +kernel
theorem kinst {ci : Nat} {q : vw_C} (hq : vwCl[ci]? = some q) : Cond.instantiable q.1 q.2.2 ∈ lw_tbl := by
  have hc : ci < 13 := (List.getElem?_eq_some_iff.mp hq).1
  have h1 := List.all_eq_true.mp kinst_ok ci (List.mem_range.mpr hc)
  rw [hq] at h1
  exact List.contains_iff_mem.mp h1
theorem kstr_ok : kstrs.all (fun q => (flatC (Jvm.Cond.and given_1 narrow_1)).contains (.exactly (.string q.1 q.2.1) "java/lang/String")) = true := by decide +kernel
theorem kgw_tbl {w : Cond} (h : w ∈ kgw) : w ∈ lw_tbl := (List.mem_filter.mp h).1
theorem k_arr {s : State} {args : Array Value} {ty : FieldType} (h : (Cond.arrayClass ty).before args s = true) : ∃ cA : ClassId, ArrOfT s cA ty ∧ s.vm.findClass ("[" ++ ty.toString) = some cA := by
  obtain ⟨cA, kA, comp, h1, h2, h3⟩ := Cond.arrayClass_spec h
  exact ⟨cA, fun n z => ⟨fun k h => (by cases h), kA, h2, comp, h3⟩, h1⟩
theorem k_env {s : State} {args : Array Value} {b L : Nat} {xs : Nat → Int32} (hts : ∀ w ∈ lw_tbl, w.before args s = true) (hg : (Jvm.Cond.and given_1 narrow_1).before args s = true) (hX : va_X b L xs s s.heap) (hb : b < s.heap.size) : ∃ (D : va_G) (cA : Nat → ClassId), kEnv b L xs (fun q => s.heap.size ≤ q) D cA s := by
  have fl := flat_of_before _ hg
  have H : ∀ ci : Nat, ∃ (cC : ClassId) (iS : Nat → Nat), ∀ q : vw_C, vwCl[ci]? = some q → u_Kn s q.1 q.2.1 q.2.2 cC iS := by
    intro ci
    cases h : vwCl[ci]? with
    | none => exact ⟨(0 : Nat), fun _ => 0, fun q e => by cases e⟩
    | some q =>
      obtain ⟨cC, iS, hk⟩ := u_known (C := q.1) (T := q.2.1) (N := q.2.2) (n := q.2.2) hts (fun w hw => kgw_tbl (kuws h w hw)) (hts _ (kinst h))
      exact ⟨cC, iS, fun q' e => by cases e; exact hk⟩
  obtain ⟨dC, H1⟩ := Classical.skolem.mp H
  obtain ⟨dI, H2⟩ := Classical.skolem.mp H1
  obtain ⟨c1, a1, f1⟩ := k_arr (hts _ (kgw_tbl karr1))
  obtain ⟨c2, a2, f2⟩ := k_arr (hts _ (kgw_tbl karr2))
  obtain ⟨c3, a3, f3⟩ := k_arr (hts _ (kgw_tbl karr3))
  obtain ⟨c4, a4, f4⟩ := k_arr (hts _ (kgw_tbl karr4))
  refine ⟨(dC, dI), fun k => if k = 1 then c1 else if k = 2 then c2 else if k = 3 then c3 else c4, ⟨fun ci q hq => H2 ci q hq, fun k q hk => ?_⟩, fun w hw => ?_, fun q hq => ?_, va_Nc.of (fl _ (by decide +kernel)), va_Nc.of (fl _ (by decide +kernel)), hX, hb, by omega, vx_Zqof (hts _ (by decide +kernel)) (hts _ (by decide +kernel)) (fl _ (by decide +kernel)) (fun a ha => by omega), vx_Zqof (hts _ (by decide +kernel)) (hts _ (by decide +kernel)) (fl _ (by decide +kernel)) (fun a ha => by omega)⟩
  · match k, hk with
    | 0, hk => cases hk; exact ⟨a1, f1⟩
    | 1, hk => cases hk; exact ⟨a2, f2⟩
    | 2, hk => cases hk; exact ⟨a3, f3⟩
    | 3, hk => cases hk; exact ⟨a4, f4⟩
    | k + 4, hk => simp [ktys] at hk
  · obtain ⟨h1, h2⟩ := List.mem_filter.mp hw
    unfold kewB at h2
    rw [Bool.and_eq_true] at h2
    exact va_Nw.of h2.1 (hts w h1)
  · have h1 := List.contains_iff_mem.mp (List.all_eq_true.mp kstr_ok q hq)
    obtain ⟨sa, _, _, _, h2, _⟩ := Cond.exactly_spec (fl _ h1)
    obtain ⟨w, hw, ew⟩ := List.mem_filterMap.mp hq
    have h3 := hts w hw
    cases w <;> simp at ew
    subst ew
    exact ⟨sa, vk_R.of h3 h2⟩
def R_law : String := "PhraseLearnerLaw"
def lw_P (b : Addr) (xs : List Int32) (args : Array Value) (s : State) : Prop := args = #[.ref b] ∧ s.IntsAt b xs ∧ xs.length ≤ 3072 ∧ (Jvm.Cond.and given_1 narrow_1).before args s = true
def lw_Q (_ : Array Value) (s : State) (o : Outcome) (t : State) : Prop := o = .returned (some (.int 1)) ∧ Framed s o t [] room_1.cells room_1.slots
def lw_Z (below : List Frame) (a : Array Value) (s : State) : State → Prop := fun t => ∃ o, t.status = .running ∧ Ended t below o ∧ lw_Q a s o t
/-- the law's own end, with 1 on the stack, nothing written that was there before, its room as the claim has it -/
theorem lw_ret {p : Program} {l : Launch} {e : Env} {s : State} {m : MethodId} {below : List Frame} {meth : Method} {c : Code} {b : Nat} (hx : p.tables.exec = Jvm.exec) (hb : c.code = code) (hr : meth.sig.returnType = ret) (hlocks : meth.locks = false) {pc : Nat} {H : Heap} {ls : Array Slot} (hdg : decode code pc = .ok (.ireturn, 1)) : W p l e room_1 s m #[Value.ref b] below meth c H [] room_1.cells room_1.slots (lw_Z below #[Value.ref b] s) (F0 m pc ls [.int 1]) := by
  intro T hT X
  obtain ⟨fs, hret, hrun, hended, hW, hframe⟩ := X.leave (v := some (.int 1)) (hlocks := hlocks) (fun h => by rw [hr] at h; cases h)
  have hmeth' : T.vm.method? m = some meth := X.method'
  refine ⟨T.setFrames fs, ?_, .returned (some (.int 1)), hrun, hended, rfl, ⟨_, rfl⟩, hW, hframe⟩
  jvm_step X.here [X.here.top, hx, hb, hdg, hmeth', hr, ret, narrow_b1]
  (try refine ⟨rfl, ?_⟩); (try refine ⟨rfl, ?_⟩)
  first | (intro acts; rw [hret _ acts rfl rfl rfl]) | rw [hret _ _ rfl rfl rfl]
  exact Steps.refl _
/-- what holds at the law's entry: the machine, the code, the tables' words (any of lw_tbl by 'hts w (by decide +kernel)'), the script of L ints xs at the cell b, what the Statement gives of the start (any of its parts by flat_of_before) -/
def lw_At (p : Program) (s : State) (m : MethodId) (meth : Method) (c : Code) (b L : Nat) (xs : Nat → Int32) : Prop :=
  p.tables.exec = Jvm.exec ∧ c.code = code ∧ meth.sig.returnType = ret ∧ c.maxLocals = 7 ∧ s.vm.findClass R_law = some m.cls ∧ (∀ w ∈ lw_tbl, w.before #[Value.ref b] s = true) ∧ va_X b L xs s s.heap ∧ b < s.heap.size ∧ meth.locks = false ∧ (Jvm.Cond.and given_1 narrow_1).before #[Value.ref b] s = true
/-- from the entry, for every script of at most 3072 ints, the law comes to its end with true -/
theorem whole_start {p : Program} {e : Env} {s : State} {m : MethodId} {below : List Frame} {meth : Method} {c : Code} (l : Launch) (hflags : l.flags = flags0) {b L : Nat} {xs : Nat → Int32} (hL : L ≤ 3072) (C0 : lw_At p s m meth c b L xs) (ht : c.exceptionTable.toList = []) : W p l e room_1 s m #[Value.ref b] below meth c s.heap [] 0 0 (lw_Z below #[Value.ref b] s) (entryFrame m ([Value.ref b] : List Value).toArray 7) := by
  obtain ⟨hx, hb, hr, hml, hown, hts, hX, hbl, hlocks, hgv⟩ := C0
  obtain ⟨D, cA, hE⟩ := k_env hts hgv hX hbl
  have hl : l.stackTraces = false := by
    unfold Launch.stackTraces
    rw [hflags]
    decide
  obtain ⟨o, h', ex, ho, hc', hs'⟩ := law_run (r := 40) (L := L) (xs := xs) (Q := fun o h' => o = .inl (some (.int (nI 1))) ∧ kC h' ≤ room_1.cells ∧ kS h' ≤ room_1.slots) (Nat.le_refl _) hL (fun n h' S' hn V => by
    obtain ⟨_, _, h1, h2⟩ := V
    have := rho_4 (NNs h')
    have := G105_S
    exact ⟨rfl, Nat.le_trans (show kC h' ≤ 3000 by omega) (Nat.le_of_ble_eq_true rfl), Nat.le_trans (show kS h' ≤ 3400000 by omega) (Nat.le_of_ble_eq_true rfl)⟩)
  have hl0 := lv_entry ([.ref b]) (n := 7) (Nat.le_of_ble_eq_true rfl)
  rw [lg_entry_eq]
  generalize (lg_sl ([.ref b]) ++ List.replicate (7 - (lg_sl ([.ref b])).length) Slot.unset).toArray = jls at hl0 ⊢
  have hl0 : lv_has jls 7 [(0, .ref b)] := hl0
  have wn : kwld cA (fun _ => 0) (Z0 L xs) = [] := rfl
  have Dy : kDy mL_law s (fun q => s.heap.size ≤ q) D cA b L xs (fun _ => 0) (Z0 L xs) [some .null, none, none, none, none, none, none] [] s.heap [] jls := by
    unfold kDy
    rw [wn]
    refine ⟨fun k q hk => (by simp at hk), ⟨fun i j p q hi => (by simp at hi), fun k q hk => (by simp at hk)⟩, va_S.rf, rfl, hl0, ⟨fun a j ha => ?_, rfl, rfl⟩, fun i v hi => ?_, fun v hv => (by cases hv)⟩
    · have : a = 0 := Nat.le_zero.mp ha
      subst this
      exact Nat.le_refl 0
    · match i, hi with
      | 0, hi => cases hi; trivial
      | 1, hi => cases hi
      | 2, hi => cases hi
      | 3, hi => cases hi
      | 4, hi => cases hi
      | 5, hi => cases hi
      | 6, hi => cases hi
      | i + 7, hi => simp at hi
  have K := ex.2.2 p l e room_1 s m #[Value.ref b] below meth c s.heap [] 0 0 (fun q => s.heap.size ≤ q) D cA b L xs (fun _ => 0) (fun _ => 0) jls 0 0 0 (kC h') (kS h')
    ⟨hx, hb, hml, hown, fun w hw => hts w (kgw_tbl hw), hE, hl, hr, hlocks, ht, fun q => absurd q (by decide), Nat.le_of_ble_eq_true rfl, Nat.le_of_ble_eq_true rfl, fun q hq => hq⟩
    Dy (kext_rf _ _) (Nat.le_refl _) rfl rfl (Nat.add_zero _) (Nat.add_zero _) hc' hs'
  intro T hT X
  obtain ⟨t, a1, o', b1, b2, b3⟩ := K T hT X
  refine ⟨t, a1, o', b1, b2, ?_⟩
  rcases b3 with ⟨⟨⟨v, e1, e2, _⟩, _⟩, Lc, fe, fq⟩ | ⟨q, _, E, ce, Lc, ⟨e1, _⟩, _⟩
  · rw [ho] at e1
    have ev : v = some (.int (nI 1)) := by
      injection e1 with e1
      exact e1.symm
    subst ev
    refine ⟨e2, fe.1, fe.2.1, ?_⟩
    obtain ⟨g1, g2, g3, g4, g5, g6⟩ := fe.2.2
    refine ⟨g1, g2, Nat.le_trans g3 (Nat.add_le_add_left hc' _), g4, Nat.le_trans g5 hs', fun a cc hcc => ?_⟩
    obtain ⟨c2, k1, k2, k3, k4⟩ := g6 a cc hcc
    have ha : a < s.heap.size := (Array.getElem?_eq_some_iff.mp hcc).1
    refine ⟨c2, k1, k2, k3, fun i _ => k4 i (fun z => ?_)⟩
    exact absurd (fq _ z) (Nat.not_le.mpr ha)
  · rw [ho] at e1; cases e1
set_option maxHeartbeats 4000000 in
theorem lw_walk (l : Launch) (hflags : l.flags = flags0) (b : Addr) (xs : List Int32) : MetFree l x (headSpec (Jvm.Cond.code x code maxLocals ret :: tables_1) room_1) (lw_P b xs) (fun _ _ _ _ _ => True) lw_Q := by
  refine MetFree.of_bodyS (code := code) (maxLocals := maxLocals) (ret := ret) (by decide) ?_ ?_
  · intro args s m h hn
    obtain ⟨meth, c, h1, h2, h3, h4, h5, h6, -, -⟩ := Cond.code_spec hn (atoms_spec (ws := Jvm.Cond.code x code maxLocals ret :: tables_1) h _ List.mem_cons_self)
    exact ⟨meth, c, h1, h2, h3, h4, h5, h6⟩
  · intro p e s m args below meth c s₁ B hml0 hP _
    obtain ⟨rfl, hx, hbd, hgv⟩ := hP
    obtain ⟨scr, harrAt, hlist, hof, hsmall⟩ := hx
    obtain ⟨hcb, hkn, -, -⟩ := State.arrayAt?_spec harrAt
    have hown : s.vm.findClass R_law = some m.cls := findClass_of_methodNamed B.named
    have hts0 : ∀ c ∈ (Jvm.Cond.code x code maxLocals ret :: tables_1), c.before #[Value.ref b] s = true := atoms_spec (ws := Jvm.Cond.code x code maxLocals ret :: tables_1) B.pre
    have hts : ∀ w ∈ lw_tbl, w.before #[Value.ref b] s = true := k2_hts_sels lw_privs (fun w hw => hts0 w (List.mem_cons_of_mem _ hw)) lw_privs_ok
    have hml : c.maxLocals = 7 := B.maxLocals_eq (hts0 _ List.mem_cons_self)
    have htab : c.exceptionTable.toList = [] := by
      obtain ⟨meth9, c9, h1, h2, -, -, -, -, h7, -⟩ := Cond.code_spec B.named (hts0 _ List.mem_cons_self)
      cases Option.some.inj (h1.symm.trans B.method)
      cases Option.some.inj (h2.symm.trans (Stand.of_body B).code)
      rw [Array.isEmpty_iff.mp h7]
    have X₀ : Stand p l e room_1 s m #[Value.ref b] below meth c s₁ [] 0 0 := Stand.of_body B
    have hh0 : s₁.heap = s.heap := by rw [B.state]; rfl
    have hsz : scr.slots.size = xs.length := by rw [← Array.length_toList, hlist, List.length_map]
    have hval : ∀ j : Nat, j < xs.length → scr.slots[j]? = some (.int (xs.getD j 0)) := fun j hj => by
      rw [← Array.getElem?_toList, hlist]
      simp [hj]
    have hbl : b < s.heap.size := (Array.getElem?_eq_some_iff.mp hcb).1
    have hX : va_X b xs.length (fun j => xs.getD j 0) s s.heap := ⟨scr, hcb, hof, hkn, hsz, hval⟩
    have K : W p l e room_1 s m #[Value.ref b] below meth c s₁.heap [] 0 0 (lw_Z below #[Value.ref b] s) (entryFrame m ([Value.ref b] : List Value).toArray 7) := by
      rw [hh0]
      exact whole_start l hflags hbd ⟨B.exec, B.bytes, B.returns, hml, hown, hts, hX, hbl, B.notSynchronized, hgv⟩ htab
    obtain ⟨t, a1, o, b1, b2, b3⟩ := K s₁ rfl X₀
    exact ⟨t, o, a1, b1, b2, b3⟩
theorem lw_pre_spec {args : Array Value} {s : State} (h : (Jvm.Cond.and given_1 narrow_1).before args s = true) (hr : rest_1_c.before args s = true) : ∃ (b : Addr) (xs : List Int32), lw_P b xs args s := by
  have hs := flat_of_before _ h
  have hq := flat_of_before _ hr
  have hc : (Cond.count 1).before args s = true := hs _ (by decide +kernel)
  have harr : (Cond.arrayOf (.arg 0) .int).before args s = true := hs _ (by decide +kernel)
  have hle : (Cond.le (.length (.arg 0)) (.int 3072)).before args s = true := hs _ (by decide +kernel)
  have hlen : (Cond.isInt (.length (.arg 0))).before args s = true := hq _ (by decide +kernel)
  have hall : (Cond.all (.arg 0) (.isInt (.elem (.arg 0) (.index 0)))).before args s = true := hq _ (by decide +kernel)
  obtain ⟨b, xs, hb, hx⟩ := State.ints_of_pre rfl harr hlen hall
  have hsm : xs.length < 2 ^ 31 := hx.choose_spec.2.2.2
  have hev : (Term.length (.arg 0)).eval args s none [] s = some (.int xs.length.toInt32) := hx.length_eval hb
  have hv := Cond.le_ints hev (show (Term.int 3072).eval args s none [] s = some (.int 3072) from rfl)
  have hd : xs.length.toInt32 ≤ 3072 := by
    simpa [Cond.before, Cond.holds, hv] using hle
  have hN : xs.length ≤ 3072 := (Int32.ofNat_le_ofNat hsm (by decide)).mp (show Int32.ofNat xs.length ≤ Int32.ofNat 3072 from hd)
  exact ⟨b, xs, Cond.one_arg hc (show args[0]? = some (.ref b) from hb), hx, hN, h⟩
theorem lw_comes (l : Launch) (hflags : l.flags = flags0) : Comes l x (Jvm.Cond.code x code maxLocals ret :: tables_1) room_1 (fun tb e args s => Calls_1 tb e args s ∧ rest_1 tb e args s ∧ Pre_1 tb e args s)
    (fun _ _ args s o t => lw_Q args s o t) := by
  intro p e ha hc hk s m args below hf hfit hheap happ hpre
  obtain ⟨b, xs, hP⟩ := lw_pre_spec hpre.2.2 hpre.2.1
  obtain ⟨k, o, h1, h2, h3, hQ⟩ := lw_walk l hflags b xs p e ha hc hk s m args below hf ((Spec.applies_iff_loose hf).mp happ).1 hP trivial
  exact ⟨k, o, h1, h2, h3, hQ⟩
theorem lw_frame {s t : State} {o : Outcome} {args : Array Value} (h : Framed s o t [] room_1.cells room_1.slots) :
    Framed s o t (fieldLocs frame_1_writes args s ++ arrayLocs frame_1_arrays args s ++ staticLocs frame_1_statics s) room_1.cells room_1.slots := h
theorem lw_limb (L : Cond) (hL : ∀ (args : Array Value) (s t : State), L.after args s (.returned (some (.int 1))) t = true) :
    ArmFor flags0 classFile x code maxLocals ret World_1 tables_1 room_1 Calls_1 rest_1 Pre_1
      (fun tb e a s o t => postC L tb e a s o t ∧ Framed s o t (fieldLocs frame_1_writes a s ++ arrayLocs frame_1_arrays a s ++ staticLocs frame_1_statics s) room_1.cells room_1.slots) := by
  intro l hflags _ _ p e ha hc hk s m args below hf hfit hheap happ hpre
  obtain ⟨k, o, h1, h2, h3, rfl, hF⟩ := lw_comes l hflags p e ha hc hk s m args below hf hfit hheap happ hpre
  exact ⟨k, _, h1, h2, h3, hL args s _, lw_frame hF⟩
theorem i_vc : Claimed_1_1 ∧ Claimed_1_2 := ⟨lw_limb limb_1_1 (fun args s t => by simp [limb_1_1, Cond.after, Cond.holds, Cond.value]), lw_limb limb_1_2 (fun args s t => Cond.after_iff.mpr (by
  first | (rw [show limb_1_2 = Cond.eq .result (.int 1) from rfl, Cond.eq_ints (x := 1) (y := 1) rfl rfl]; simp; done) | (simp [limb_1_2, Cond.value, Term.eval]; done)))⟩

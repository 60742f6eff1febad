section KF1
variable {r : Nat} {M : KM} {pc : Nat} {ls : List (Option Value)} {st : List Value} {h h1 : KH}
theorem ke_iret {x : Int32} (d : decode (kby M) pc = .ok (.ireturn, 1)) (hr : krt M = some .int ∨ (krt M = some .boolean ∧ (x = 0 ∨ x = 1))) : kEx r M pc ls [.int x] h (.inl (some (.int x))) h := by
  refine ⟨kup_rf h, fun v hv => (by cases hv; trivial), ?_⟩
  intro p l e R s m args below meth c H locs cells slots A D cA b L xs ad ad0 jls n0 c0 s0 mc ms S Dy hext hn0 hc0 hs0 hmc hms hRc hRs
  obtain ⟨hx, hb, -, hown, hts, hE, -, hret, hlocks, -⟩ := S
  obtain ⟨d1, d2, d3, d4, d5, d6, d7, d8⟩ := Dy
  obtain rfl : cells = mc := by omega
  obtain rfl : slots = ms := by omega
  have hq : ∀ t : State, t.heap = H → s.WarmedH t.vm → kQc n0 b L xs A D cA ad0 (.inl (some (.int x))) h args s (.returned (some (.int x))) t := fun t ht _ => ⟨⟨some (.int x), rfl, rfl, ad, hext, by rw [ht]; exact d1, d2, d6⟩, d3.F ht⟩
  rcases hr with hr | ⟨hr, hx01⟩
  · exact vx_ret (W.iret hx hb (hret.trans hr) hq d3.2.2 d)
  · exact vx_ret (W.zret hx hb (hret.trans hr) (by rcases hx01 with rfl | rfl <;> decide) hq d3.2.2 d)
theorem ke_lret {x : Int64} (d : decode (kby M) pc = .ok (.lreturn, 1)) (hr : krt M = some .long) : kEx r M pc ls [.long x] h (.inl (some (.long x))) h := by
  refine ⟨kup_rf h, fun v hv => (by cases hv; trivial), ?_⟩
  intro p l e R s m args below meth c H locs cells slots A D cA b L xs ad ad0 jls n0 c0 s0 mc ms S Dy hext hn0 hc0 hs0 hmc hms hRc hRs
  obtain ⟨hx, hb, -, hown, hts, hE, -, hret, hlocks, -⟩ := S
  obtain ⟨d1, d2, d3, d4, d5, d6, d7, d8⟩ := Dy
  obtain rfl : cells = mc := by omega
  obtain rfl : slots = ms := by omega
  exact vx_ret (W.lret hx hb (hret.trans hr) (fun t ht _ => ⟨⟨some (.long x), rfl, rfl, ad, hext, by rw [ht]; exact d1, d2, d6⟩, d3.F ht⟩) d3.2.2 d)
theorem ke_vret (d : decode (kby M) pc = .ok (.return_, 1)) (hr : krt M = none) : kEx r M pc ls [] h (.inl none) h := by
  refine ⟨kup_rf h, fun v hv => (by cases hv), ?_⟩
  intro p l e R s m args below meth c H locs cells slots A D cA b L xs ad ad0 jls n0 c0 s0 mc ms S Dy hext hn0 hc0 hs0 hmc hms hRc hRs
  obtain ⟨hx, hb, -, hown, hts, hE, -, hret, hlocks, -⟩ := S
  obtain ⟨d1, d2, d3, d4, d5, d6, d7, d8⟩ := Dy
  obtain rfl : cells = mc := by omega
  obtain rfl : slots = ms := by omega
  exact vx_ret (W.vret hx hb (hret.trans hr) (fun t ht _ => ⟨⟨none, rfl, rfl, ad, hext, by rw [ht]; exact d1, d2, d6⟩, d3.F ht⟩) d3.2.2 d)
/-- the words of a throw -/
def kinS (w : Cond) : Bool := lw_tbl.contains w && (goodWord w || kewB w)
theorem kinS_mem {w : Cond} (h : kinS w = true) : w ∈ kgw ∨ w ∈ kew := by
  simp only [kinS, Bool.and_eq_true, Bool.or_eq_true] at h
  have hm := List.contains_iff_mem.mp h.1
  rcases h.2 with q | q
  · exact Or.inl (List.mem_filter.mpr ⟨hm, q⟩)
  · exact Or.inr (List.mem_filter.mpr ⟨hm, q⟩)
/-- the words of a throw whose class' constructor hands its text on by the number ix of its own pool -/
def kOwnL (own : String) (ic : Nat) (X : String) (ix : Nat) (bytes : ByteArray) : List Cond :=
  (Bundle.throwableAtoms ++ Bundle.throwableSAtoms ++ (Bundle.passSAtoms X "java/lang/RuntimeException" ix bytes ++ Bundle.chainSAtoms "java/lang/RuntimeException" ["java/lang/Exception"])) ++
  ([.methodLink own ic (Bundle.initS X), .instantiable X 6, .castable X X, .selects X Bundle.tFill0 Bundle.tFill0, .selects X Bundle.tFill Bundle.tFill] ++ [.lays X Bundle.tN "cause" "Ljava/lang/Throwable;", .lays X Bundle.tN "stackTrace" Bundle.steD, .lays X Bundle.tN "suppressedExceptions" Bundle.listD, .lays X Bundle.tN "detailMessage" "Ljava/lang/String;", .lays X Bundle.tN "backtrace" "Ljava/lang/Object;"] ++
   [.isRef (.static Bundle.tN "UNASSIGNED_STACK" Bundle.steD), .isRef (.static Bundle.tN "SUPPRESSED_SENTINEL" Bundle.listD), .fieldLink Bundle.tN 198 Bundle.tN "backtrace" "Ljava/lang/Object;", .lays Bundle.tN Bundle.tN "backtrace" "Ljava/lang/Object;"])
theorem k_ctor {p : Program} {l : Launch} {e : Env} {R : Room} {s : State} {m₀ : MethodId} {args : Array Value} {below : List Frame} {meth : Method} {c : Code} {W : State} {locs : List Loc} {cells slots : Nat} (X : Stand p l e R s m₀ args below meth c W locs cells slots) (hexec : p.tables.exec = Jvm.exec) (htr : e.platform.stackTraces = false) {own cls : String} {ic ix : Nat} {bytes : ByteArray}
    (hown : s.vm.findClass own = some m₀.cls) (hcls : Bundle.fit cls = true) (b0 : decode bytes 0 = .ok (.aload_n 0, 1)) (b1 : decode bytes 1 = .ok (.aload_n 1, 1)) (b2 : decode bytes 2 = .ok (.invokespecial ix, 3)) (b5 : decode bytes 5 = .ok (.return_, 1))
    (h : ∀ a ∈ kOwnL own ic cls ix bytes, a.before args s = true)
    (hlocs : ∀ x ∈ locs, ∀ cell, s.heap[x.base]? = some cell → cell.vm.isStatics = false)
    {a : Addr} {cX : ClassId} {kX : Class} (hfoundX : s.vm.findClass cls = some cX) (hkX : s.vm.classes[cX]? = some kX) (hcell : W.heap[a]? = some (freshCell cX kX)) (hnew : s.heap.size ≤ a)
    {msg : Value} (hmsg : msg.isRef = true)
    {g : JFrame} (hg : g.method = m₀) (hsize : g.locals.size = c.maxLocals) (hlocked : g.locked = none) (hentered : g.entered = []) {rest : List Value} (hstack : g.stack = msg :: .ref a :: .ref a :: rest)
    (hd6 : decode c.code g.pc = .ok (.invokespecial ic, 3)) (hd9 : decode c.code (g.pc + 3) = .ok (.athrow, 1)) (hout : ∀ x ∈ c.exceptionTable.toList, covers x (g.pc + 3) = false)
    (hRframes : 5 < R.frames) (hRlocals : 2 * g.monitorRoom + ((Value.ref a :: rest).map fun v => v.category).sum + 81 ≤ R.locals) (hlocks : meth.locks = false) :
    ∃ U : State, Steps p.tables e below (W.setTop g) U ∧ U.status = .running ∧ Ended U below (.threw a) ∧ s.WarmedH U.vm ∧ s.sameButNew ({ U with vm := s.vm } : State) locs cells slots ∧
      ∃ ce, U.heap[a]? = some ce ∧ ce.vm = .none ∧ s.vm.findClass cls = some ce.cls := by
  have howns : e.platform.frameOwnsMonitors = true := by rw [X.admits.platform]
  have hfin : e.platform.finalization = false := by rw [X.admits.platform]
  have hpl : e.platform.magicAccessors = ({} : Platform).magicAccessors := by rw [X.admits.platform]
  have hA1 : ∀ x ∈ Bundle.throwableAtoms, x.before args s = true := fun x hx => h x (by simp only [kOwnL, List.mem_append]; exact Or.inl (Or.inl (Or.inl hx)))
  have hA2 : ∀ x ∈ Bundle.throwableSAtoms, x.before args s = true := fun x hx => h x (by simp only [kOwnL, List.mem_append]; exact Or.inl (Or.inl (Or.inr hx)))
  have hA3 : ∀ x ∈ Bundle.passSAtoms cls "java/lang/RuntimeException" ix bytes, x.before args s = true := fun x hx => h x (by simp only [kOwnL, List.mem_append]; exact Or.inl (Or.inr (Or.inl hx)))
  have hA4 : ∀ x ∈ Bundle.chainSAtoms "java/lang/RuntimeException" ["java/lang/Exception"], x.before args s = true := fun x hx => h x (by simp only [kOwnL, List.mem_append]; exact Or.inl (Or.inr (Or.inr hx)))
  have hA5 : ∀ x ∈ ([.methodLink own ic (Bundle.initS cls), .instantiable cls 6, .castable cls cls, .selects cls Bundle.tFill0 Bundle.tFill0, .selects cls Bundle.tFill Bundle.tFill] : List Cond), x.before args s = true := fun x hx => h x (by simp only [kOwnL, List.mem_append]; exact Or.inr (Or.inl (Or.inl hx)))
  have hA6 : ∀ x ∈ ([.lays cls Bundle.tN "cause" "Ljava/lang/Throwable;", .lays cls Bundle.tN "stackTrace" Bundle.steD, .lays cls Bundle.tN "suppressedExceptions" Bundle.listD, .lays cls Bundle.tN "detailMessage" "Ljava/lang/String;", .lays cls Bundle.tN "backtrace" "Ljava/lang/Object;"] : List Cond), x.before args s = true := fun x hx => h x (by simp only [kOwnL, List.mem_append]; exact Or.inr (Or.inl (Or.inr hx)))
  have hA7 : ∀ x ∈ ([.isRef (.static Bundle.tN "UNASSIGNED_STACK" Bundle.steD), .isRef (.static Bundle.tN "SUPPRESSED_SENTINEL" Bundle.listD), .fieldLink Bundle.tN 198 Bundle.tN "backtrace" "Ljava/lang/Object;", .lays Bundle.tN Bundle.tN "backtrace" "Ljava/lang/Object;"] : List Cond), x.before args s = true := fun x hx => h x (by simp only [kOwnL, List.mem_append]; exact Or.inr (Or.inr hx))
  obtain ⟨T, Z0, L, -, Y⟩ := ThrowableC.of_atoms (args := args) howns hfin hpl hA1
  obtain ⟨Z, M, LZ, LM, hnZ⟩ := Init0T.ofS_atoms (args := args) hpl L Y hA2
  obtain ⟨P1, L1, hP1m, hs1⟩ := PassC.ofS_atoms (args := args) (s := s) hpl (X := cls) (Y := "java/lang/RuntimeException") (Bundle.fit_spec hcls).1 (by decide) b0 b1 b2 b5 hA3
  obtain ⟨P2, Ps0, hlen0, L2, hL0, hm2, hsup2, hpass2⟩ := Bundle.chainS (args := args) hpl hnZ ["java/lang/Exception"] "java/lang/RuntimeException" (by decide +kernel) (by decide +kernel) hA4
  have hlink1 : P1.sup = P2.m := Option.some.inj (hs1.symm.trans hm2)
  have hfound : s.vm.findClass cls = some P1.m.cls := findClass_of_methodNamed hP1m
  cases Option.some.inj (hfoundX.symm.trans hfound)
  obtain ⟨c1, kX', hc1, hk, hord, -, -, hn6⟩ := Cond.instantiable_spec (hA5 (.instantiable cls 6) (by simp))
  cases Option.some.inj (hc1.symm.trans hfound)
  cases Option.some.inj (hkX.symm.trans hk)
  have hsel0 : selectMethod e.platform s.vm P1.m.cls T.fill0 = .method T.fill0 := by
    obtain ⟨c2, r2, m2, q1, q2, q3, q4, -⟩ := Cond.selects_spec (hA5 (.selects cls Bundle.tFill0 Bundle.tFill0) (by simp))
    cases Option.some.inj (q1.symm.trans hfound)
    cases Option.some.inj (q2.symm.trans (State.methodFound?_of_named Y.fill0 (by decide)))
    cases Option.some.inj (q3.symm.trans Y.fill0)
    rw [Launch.admits_selectMethod X.admits]; exact q4
  have hselF : selectMethod e.platform s.vm P1.m.cls T.fill = .method T.fill := by
    obtain ⟨c2, r2, m2, q1, q2, q3, q4, -⟩ := Cond.selects_spec (hA5 (.selects cls Bundle.tFill Bundle.tFill) (by simp))
    cases Option.some.inj (q1.symm.trans hfound)
    cases Option.some.inj (q2.symm.trans (State.methodFound?_of_named Y.fill (by decide)))
    cases Option.some.inj (q3.symm.trans Y.fill)
    rw [Launch.admits_selectMethod X.admits]; exact q4
  obtain ⟨cellS0, hcS0, hiss⟩ := Y.statics
  obtain ⟨u0, hu0⟩ := Cond.staticRefV Y.unassigned L.unassignedStatic L.statics hcS0 hiss (hA7 (.isRef (.static Bundle.tN "UNASSIGNED_STACK" Bundle.steD)) (by simp))
  obtain ⟨sen, hsen⟩ := Cond.staticRefV Y.sentinel L.sentinelStatic L.statics hcS0 hiss (hA7 (.isRef (.static Bundle.tN "SUPPRESSED_SENTINEL" Bundle.listD)) (by simp))
  obtain ⟨ci198, i198, fB, hk198, hg198, ha198, hsB, -, hnB, htB, hffB⟩ := Cond.ownField (t := .object "java/lang/Object") Y.found L.cls (by decide +kernel) (hA7 (.fieldLink Bundle.tN 198 Bundle.tN "backtrace" "Ljava/lang/Object;") (by simp)) (hA7 (.lays Bundle.tN Bundle.tN "backtrace" "Ljava/lang/Object;") (by simp)) e.platform hpl
  obtain ⟨cellS, hcS', heS, -, hkeep⟩ := X.same.2.2.2.2.2 T.aS cellS0 hcS0
  have hcellS : W.heap[T.aS]? = some cellS := hcS'
  have hout' : ∀ i, (⟨T.aS, i⟩ : Loc) ∉ locs := fun i hmem => by
    have := hlocs _ hmem cellS0 hcS0
    rw [hiss] at this; cases this
  have hknownS : cellS.vm ≠ .unknown := by
    rw [heS]; intro hu
    rw [show cellS0.vm = .unknown from hu] at hiss
    cases hiss
  have hneS : T.aS ≠ a := Nat.ne_of_lt (Nat.lt_of_lt_of_le (Array.getElem?_eq_some_iff.mp hcS0).1 hnew)
  obtain ⟨iM, hffM⟩ := Y.msg
  obtain ⟨tyC, dC, hdC, hdnC⟩ := Cond.laysAt hfound hk Y.cause (hA6 (.lays cls Bundle.tN "cause" "Ljava/lang/Throwable;") (by simp))
  obtain ⟨tyS, dS, hdS, hdnS⟩ := Cond.laysAt hfound hk Y.stack (hA6 (.lays cls Bundle.tN "stackTrace" Bundle.steD) (by simp))
  obtain ⟨tyP, dP, hdP, hdnP⟩ := Cond.laysAt hfound hk Y.supp (hA6 (.lays cls Bundle.tN "suppressedExceptions" Bundle.listD) (by simp))
  obtain ⟨tyM, dM, hdM, hdnM⟩ := Cond.laysAt hfound hk hffM (hA6 (.lays cls Bundle.tN "detailMessage" "Ljava/lang/String;") (by simp))
  obtain ⟨tyB, dB, hdB, hdnB⟩ := Cond.laysAt hfound hk hffB (hA6 (.lays cls Bundle.tN "backtrace" "Ljava/lang/Object;") (by simp))
  have bC := Cond.laysApart hdB hdC hdnB hdnC (by rw [hnB, Y.causeName]; decide)
  have bS := Cond.laysApart hdB hdS hdnB hdnS (by rw [hnB, Y.stackName]; decide)
  have bP := Cond.laysApart hdB hdP hdnB hdnP (by rw [hnB, Y.suppName]; decide)
  have hskip : SkipFacts T e.platform s (fun u => u) u0 ((preparedCellV T.toThrowableT (freshCell P1.m.cls kX) a u0 sen).withEntry W.cur) :=
    ⟨{ ci198 := ci198, i198 := i198, fBack := fB }, ⟨hk198, hg198, ha198, hsB⟩, by
      have := fresh_default (c := P1.m.cls) tyB
      rw [htB] at this
      simpa [preparedCellV, Cell.setSlot, Cell.withEntry, Array.getElem?_setIfInBounds, bC, bS, bP, bC.symm, bS.symm, bP.symm, defaultValue] using this, fun _ _ => rfl⟩
  obtain ⟨tm, methC, cdC, kC, vm₁, hnC, -, -, -, -, -, -, -, hW₁, st1⟩ := Steps.initColdS (tb := p.tables) (e := e) (below := below) (s := s) (U := W) X.here hexec X.warmed hpl hown (t := Bundle.initS cls) rfl rfl (Bundle.fit_spec hcls).2
    (hA5 (.methodLink own ic (Bundle.initS cls)) (by simp)) (hA3 (.instanceMethod (Bundle.initS cls)) (by simp [Bundle.passSAtoms])) (bytes := bytes) (maxL := 2) (hA3 (.code (Bundle.initS cls) bytes 2 none) (by simp [Bundle.passSAtoms]))
    (f := g) hg (a := a) (msg := msg) (rest := .ref a :: rest) hstack hd6
  cases Option.some.inj (hnC.symm.trans hP1m)
  have X₁ := X.noted hW₁
  have hlen : (P1 :: P2 :: Ps0).length = 3 := by simp [hlen0]
  obtain ⟨vm₂, X₂, st2⟩ := X₁.ctorMessageOffV hexec (g := { g with stack := .ref a :: rest }) hg hsize T L Z LZ M LM (P1 :: P2 :: Ps0)
    (fun P hP => by
      rcases List.mem_cons.mp hP with rfl | hP
      · exact L1
      · rcases List.mem_cons.mp hP with rfl | hP
        · exact L2
        · exact hL0 P hP) ⟨hlink1, hsup2, hpass2⟩ (u0 := u0) (sen := sen) (self := a) hmsg (cell := freshCell P1.m.cls kX) (cellS := cellS)
    hcell (fun _ => by simp) (by simp) rfl rfl hsel0 hselF hcellS hneS hknownS (by rw [hkeep _ (hout' _)]; exact hu0) (by rw [hkeep _ (hout' _)]; exact hsen)
    (Takes.of_laid hk hord tyC (by rw [Y.causeType]; rfl)) (Takes.of_laid hk hord tyS (by rw [Y.stackType]; exact fits_refV_array _ u0)) (Takes.of_laid hk hord tyP (by rw [Y.suppType]; exact fits_refV_object _ sen))
    (Takes.of_laid hk hord tyM (by rw [Y.msgType]; exact fits_refV_object _ ⟨msg, hmsg⟩)) Y.objLocals hskip htr [] hd6
    (by rw [hlen]; omega) (by rw [hlen]; exact hRlocals)
  obtain ⟨hwalk, hrun, hended, hWU, hsame⟩ := X₂.athrowLeaves hexec (g := { g with stack := .ref a :: rest, pc := g.pc + 3 }) hg hlocked hentered hout (a := a) (rest := rest) rfl hd9
  have hlt : a < ((W.setVm vm₁).setVm vm₂).heap.size := (Array.getElem?_eq_some_iff.mp hcell).1
  have hU := heapAt_setCell_self (s := (W.setVm vm₁).setVm vm₂) (plainBareV T.toThrowableT (freshCell P1.m.cls kX) a u0 sen msg) hlt
  refine ⟨_, st1 _ (fun acts => ?_), hrun, hended, hWU, hsame.weaken (fun y hy hlt' => ?_) (Nat.le_refl _) (Nat.le_refl _), _, hU, rfl, hfound⟩
  · rw [doInvoke_state]
    exact st2 _ hwalk
  · rcases List.mem_append.mp hy with h1 | h1
    · exact h1
    · exfalso
      have hb : y.base = a := by
        simp only [List.mem_cons, List.not_mem_nil, or_false] at h1
        rcases h1 with rfl | rfl | rfl | rfl | rfl <;> rfl
      rw [hb] at hlt'
      exact Nat.not_lt.mpr hnew hlt'
def kcb (ix : Nat) : ByteArray := ⟨#[0x2a, 0x2b, 0xb7, 0x00, UInt8.ofNat ix, 0xb1]⟩
def kthrB (q : Nat × String × Nat) : Bool := Bundle.fit q.2.1 && decide (decode (kcb q.2.2) 0 = .ok (.aload_n 0, 1)) && decide (decode (kcb q.2.2) 1 = .ok (.aload_n 1, 1)) && decide (decode (kcb q.2.2) 2 = .ok (.invokespecial q.2.2, 3)) && decide (decode (kcb q.2.2) 5 = .ok (.return_, 1)) && ((kOwnL "PhraseLearner" q.1 q.2.1 q.2.2 (kcb q.2.2)).filter vx_no).all (fun w => kinS w && vx_ot w)
theorem kthr_ok : kthrTab.all kthrB = true := by decide +kernel
theorem k_throw {p : Program} {l : Launch} {e : Env} {R : Room} {s : State} {m : MethodId} {args : Array Value} {below : List Frame} {meth : Method} {c : Code} {H : Heap} {locs : List Loc} {cells slots : Nat} {lc : Array Slot} {rest : List Value} {Qc : Array Value → State → Outcome → State → Prop} {XC : String → State → State → Prop} {free : Addr → Prop} {cc bytes : ByteArray} {pc : Nat} (hexec : p.tables.exec = Jvm.exec) (hb : c.code = cc) (hl : l.stackTraces = false) {own cls text : String} {ik is ic ix mc ms sa pd : Nat} {A : Nat → Prop}
    (hown : s.vm.findClass own = some m.cls) (hcls : Bundle.fit cls = true) (b0 : decode bytes 0 = .ok (.aload_n 0, 1)) (b1 : decode bytes 1 = .ok (.aload_n 1, 1)) (b2 : decode bytes 2 = .ok (.invokespecial ix, 3)) (b5 : decode bytes 5 = .ok (.return_, 1))
    (hk : (Cond.classLink own ik cls).before args s = true) (hini : (Cond.initialized cls).before args s = true) (hstr : vk_R own is text sa s) (hat : ∀ w ∈ (kOwnL own ic cls ix bytes).filter vx_no, w.before args s = true)
    (hgood : ∀ w ∈ Cond.classLink own ik cls :: Cond.initialized cls :: (kOwnL own ic cls ix bytes).filter vx_no, vx_ot w = true)
    (hU : vx_Zq Bundle.tN "UNASSIGNED_STACK" Bundle.steD A s s.heap) (hN : vx_Zq Bundle.tN "SUPPRESSED_SENTINEL" Bundle.listD A s s.heap) (hS : va_S A s.heap H locs) (hsize : lc.size = c.maxLocals)
    (d0 : decode cc pc = .ok (.new ik, 3)) (d3 : decode cc (pc + 3) = .ok (.dup, 1)) (d4 : (decode cc (pc + 4) = .ok (.ldc is, 2) ∧ pd = pc + 6) ∨ (decode cc (pc + 4) = .ok (.ldc_w is, 3) ∧ pd = pc + 7)) (d6 : decode cc pd = .ok (.invokespecial ic, 3)) (d9 : decode cc (pd + 3) = .ok (.athrow, 1))
    (hout : ∀ x ∈ c.exceptionTable.toList, covers x (pd + 3) = false)
    (hRframes : 5 < R.frames) (hRlocals : (rest.map fun v => v.category).sum + 82 ≤ R.locals) (hRcells : cells + 1 ≤ R.cells) (hRslots : slots + 6 ≤ R.slots) (hlocks : meth.locks = false)
    (hx : ∀ t : State, s.vm.Alike t.vm → H.size ≤ t.heap.size → (∀ q : Nat, q < H.size → t.heap[q]? = H[q]?) → XC cls s t)
    (hf : ∀ z ∈ locs, free z.base) (hc : cells + 1 ≤ mc) (hs : slots + 6 ≤ ms) :
    W p l e R s m args below meth c H locs cells slots (vx_MQ below Qc XC args s mc ms free) (F0 m pc lc rest) := by
  intro T hT X
  have htr : e.platform.stackTraces = false := (show e.platform.stackTraces = l.stackTraces by rw [X.admits.platform]).trans hl
  have Y := vx_rebase X (R' := { frames := R.frames, locals := R.locals, cells := 1, slots := 6 }) (Nat.le_refl _) (Nat.le_refl _) hRcells hRslots
  obtain ⟨s', hA⟩ : ∃ z, z = (T.setVm s.vm).setFrames (.invoking m args :: below) := ⟨_, rfl⟩
  rw [← hA] at Y
  have hvm : s'.vm = s.vm := by rw [hA]; rfl
  have hhp : s'.heap = H := by rw [hA]; exact hT
  have hW0 : s.WarmedH s'.vm := by rw [hvm]; exact State.WarmedH.refl s
  have hat' : ∀ w ∈ (kOwnL own ic cls ix bytes).filter vx_no, w.before args s' = true := fun w hw => vx_ot_at hW0 hvm.symm (hgood w (List.mem_cons_of_mem _ (List.mem_cons_of_mem _ hw))) (hat w hw)
  have hk' : (Cond.classLink own ik cls).before args s' = true := vx_ot_at hW0 hvm.symm (hgood _ List.mem_cons_self) hk
  have hini' : (Cond.initialized cls).before args s' = true := vx_ot_at hW0 hvm.symm (hgood _ (List.mem_cons_of_mem _ List.mem_cons_self)) hini
  have hU' : vx_Zq Bundle.tN "UNASSIGNED_STACK" Bundle.steD A s' s'.heap := by rw [hhp]; exact vx_Zq.moved hW0.alike (hU.kept hS.2.1)
  have hN' : vx_Zq Bundle.tN "SUPPRESSED_SENTINEL" Bundle.listD A s' s'.heap := by rw [hhp]; exact vx_Zq.moved hW0.alike (hN.kept hS.2.1)
  have h : ∀ w ∈ kOwnL own ic cls ix bytes, w.before args s' = true := vx_own hat' (vx_isRefq hU'.1) (vx_isRefq hN'.1) hU'.2.word hN'.2.word
  have hown' : s'.vm.findClass own = some m.cls := by rw [hvm]; exact hown
  have hins : (Cond.instantiable cls 6).before args s' = true := h _ (by simp [kOwnL])
  obtain ⟨vm₁, cX, kX, hfX, hkX, -, -, X₁, st1⟩ := Y.newCold hexec (own := own) (C := cls) (index := ik) (n := 6) hown' hk' hins hini'
    (g := F0 m pc lc rest) rfl (by rw [hb]; exact d0) (Nat.le_refl _) (Nat.le_refl _)
  generalize hT1 : (T.setVm vm₁).pushCell { cls := cX, slots := kX.instanceTypes.map defaultValue, vm := .none } = T1 at X₁ st1
  have hcat : (Value.ref T.heap.size).category = 1 := rfl
  have hcellA : T1.heap[T.heap.size]? = some (freshCell cX kX) := by rw [← hT1]; exact State.heap_pushCell_size _ _
  have d3' : decode c.code (pc + 3) = .ok (.dup, 1) := by rw [hb]; exact d3
  have hstr' : vk_R own is text sa s' := vk_R.warm hW0 hstr
  obtain ⟨U, hsteps, hrun, hend, hW, hsame, ce, hce, hcv, hcl0⟩ := k_ctor X₁ hexec htr (own := own) (cls := cls) (ic := ic) hown' hcls b0 b1 b2 b5 h (fun x hx => nomatch hx) hfX hkX hcellA (by rw [hhp, hT]; exact Nat.le_refl _) (msg := .ref sa) rfl
    (g := { method := m, pc := pd, locals := lc, stack := .ref sa :: .ref T.heap.size :: .ref T.heap.size :: rest, locked := none }) rfl hsize rfl rfl (rest := rest) rfl
    (by rw [hb]; exact d6) (by rw [hb]; exact d9) hout hRframes (by simp only [List.map_cons, List.sum_cons, hcat]; show 2 * 0 + _ + 81 ≤ R.locals; omega) hlocks
  obtain ⟨f1, f2⟩ := vx_frame hsame
  rw [hhp] at f1 f2
  have hWs : s.WarmedH U.vm := State.WarmedH.trans hW0 hW
  have hcl : s.vm.findClass cls = some ce.cls := by
    rw [hvm] at hcl0
    exact hcl0
  have hall : s.sameButNew ({ U with vm := s.vm } : State) locs mc ms := by
    subst hA
    obtain ⟨e1, e2⟩ := hsame
    rw [State.setFrames_setFrames] at e1
    have h2 : (T.setVm s.vm).sameButNew ({ U with vm := s.vm } : State) [] (0 + 1) (0 + 6) := ⟨e1, e2⟩
    have h3 := X.same.trans h2
    rw [List.append_nil] at h3
    exact h3.mono hc hs
  refine ⟨U, ?_, .threw T.heap.size, hrun, hend, Or.inr ⟨T.heap.size, rfl, cls, ce, locs, hx U hWs.alike f1 (fun q hq => f2 q hq (fun z hz => nomatch hz)), hce, hcv, hcl, hWs, hall, hf⟩⟩
  refine st1 _ ?_
  show Steps p.tables e below (T1.setTop { method := m, pc := pc + 3, locals := lc, stack := .ref T.heap.size :: rest, locked := none }) _
  jvm_step X₁.here [X₁.here.top, hexec, d3', Value.category]
  rcases d4 with ⟨d4, rfl⟩ | ⟨d4, rfl⟩
  · have d4' : decode c.code (pc + 4) = .ok (.ldc is, 2) := by rw [hb]; exact d4
    exact X₁.ldcString hexec (own := own) (text := text) (index := is) (a := sa) hown' hstr'.1 hstr'.2
      (g := { method := m, pc := pc + 4, locals := lc, stack := .ref T.heap.size :: .ref T.heap.size :: rest, locked := none }) rfl d4' _ hsteps
  · have d4' : decode c.code (pc + 4) = .ok (.ldc_w is, 3) := by rw [hb]; exact d4
    exact X₁.ldcStringW hexec (own := own) (text := text) (index := is) (a := sa) hown' hstr'.1 hstr'.2
      (g := { method := m, pc := pc + 4, locals := lc, stack := .ref T.heap.size :: .ref T.heap.size :: rest, locked := none }) rfl d4' _ hsteps
theorem ke_throwC {ik is ic pd : Nat} {E tx : String} (ho : kown M = "PhraseLearner") (hh0 : khh M = []) (wk : Cond.classLink (kown M) ik E ∈ kgw) (wi : Cond.initialized E ∈ kgw) (ws : (kown M, is, tx) ∈ kstrs) (wt : ∃ ix, (ic, E, ix) ∈ kthrTab) (hr : 8 ≤ r) (hst : kcat st ≤ 8) (d0 : decode (kby M) pc = .ok (.new ik, 3)) (d3 : decode (kby M) (pc + 3) = .ok (.dup, 1))
    (d4 : (decode (kby M) (pc + 4) = .ok (.ldc is, 2) ∧ pd = pc + 6) ∨ (decode (kby M) (pc + 4) = .ok (.ldc_w is, 3) ∧ pd = pc + 7)) (d6 : decode (kby M) pd = .ok (.invokespecial ic, 3)) (d9 : decode (kby M) (pd + 3) = .ok (.athrow, 1)) : kEx r M pc ls st h (.inr E) (kexc h) := by
  refine ⟨⟨Nat.le_refl _, by rw [kC_exc]; omega, by rw [kS_exc]; omega⟩, fun v hv => (by cases hv), ?_⟩
  intro p l e R s m args below meth c H locs cells slots A D cA b L xs ad ad0 jls n0 c0 s0 mc ms S Dy hext hn0 hc0 hs0 hmc hms hRc hRs
  obtain ⟨hx, hb, hml, hown, hts, hE, hl, hret, hlocks, htab, -, hf1, hf2, hA⟩ := S
  obtain ⟨d1, d2, d3', dl4, d5, d6', d7, d8⟩ := Dy
  obtain ⟨e1, e2, e3, e4, e5, e6, e7, e8, e9, e10⟩ := hE
  obtain ⟨sa, hsa⟩ := e3 _ ws
  obtain ⟨ix, wt⟩ := wt
  have hq := List.all_eq_true.mp kthr_ok _ wt
  simp only [kthrB, Bool.and_eq_true, decide_eq_true_eq] at hq
  obtain ⟨⟨⟨⟨⟨q1, q2⟩, q3⟩, q4⟩, q5⟩, q6⟩ := hq
  have hat : ∀ w ∈ (kOwnL (kown M) ic E ix (kcb ix)).filter vx_no, w.before args s = true := by
    rw [ho]
    intro w hw
    have h2 := List.all_eq_true.mp q6 w hw
    simp only [Bool.and_eq_true] at h2
    rcases kinS_mem h2.1 with q | q
    · exact hts w q
    · have hon : w.onTables = true := by
        have := (List.mem_filter.mp q).2
        simp only [kewB, Bool.and_eq_true] at this
        exact this.1
      exact va_Nw.use hon (e2 w q)
  have hgood : ∀ w ∈ Cond.classLink (kown M) ik E :: Cond.initialized E :: (kOwnL (kown M) ic E ix (kcb ix)).filter vx_no, vx_ot w = true := by
    intro w hw
    rcases List.mem_cons.mp hw with rfl | hw
    · rfl
    · rcases List.mem_cons.mp hw with rfl | hw
      · rfl
      · rw [ho] at hw
        have h2 := List.all_eq_true.mp q6 w hw
        simp only [Bool.and_eq_true] at h2
        exact h2.2
  have hcs := kcat_sum (b := b) (ad := ad) st
  rw [kC_exc] at hmc
  rw [kS_exc] at hms
  have hXC : ∀ t : State, s.vm.Alike t.vm → H.size ≤ t.heap.size → (∀ q : Nat, q < H.size → t.heap[q]? = H[q]?) → kXC n0 b L xs A D cA ad0 (.inr E) (kexc h) E s t := by
    intro t _ hz hk
    refine ⟨rfl, ⟨ad, hext, ?_, d2, d6'⟩, Nat.le_trans d3'.1 hz, fun q h1 h2 => ?_⟩
    · exact va_P.kept (show va_P D vwCl (kwld cA ad (kexc h)) H from d1) (fun k q hq => hk q.1 ((show va_P D vwCl (kwld cA ad (kexc h)) H from d1) k q hq).lt)
    · rw [hk q (Nat.lt_of_lt_of_le h1 d3'.1)]
      exact d3'.2.1 q h1 h2
  have hout : ∀ z, ∀ x ∈ c.exceptionTable.toList, covers x z = false := fun z x hx => by rw [htab, hh0] at hx; cases hx
  exact k_throw hx hb hl hown q1 q2 q3 q4 q5 (hts _ wk) (hts _ wi) hsa hat hgood e9 e10 d3' (by rw [hml]; exact d5.1) d0 d3 d4 d6 d9 (hout _) (by omega) (by omega) (by omega) (by omega) hlocks hXC d3'.2.2 (by omega) (by omega)
theorem kokthr_ex {i : KI} (hk : kokthr M i = true) (hr : 8 ≤ r) (hst : kcat st ≤ 8) : kEx r M i.1 ls st h (.inr i.2.2.2.2.2.2.2.2.1.cls) (kexc h) := by
  simp only [kokthr, Bool.and_eq_true, decide_eq_true_eq] at hk
  obtain ⟨hh0, hk⟩ := hk
  have key : ∀ ik is ic, kthr M i.2.2.2 ik is ic = true → kown M = "PhraseLearner" ∧ Cond.classLink (kown M) ik i.2.2.2.2.2.2.2.2.1.cls ∈ kgw ∧ Cond.initialized i.2.2.2.2.2.2.2.2.1.cls ∈ kgw ∧ (kown M, is, i.2.2.2.2.2.2.2.2.1.name) ∈ kstrs ∧ ∃ ix, (ic, i.2.2.2.2.2.2.2.2.1.cls, ix) ∈ kthrTab := by
    intro ik is ic hq
    simp only [kthr, Bool.and_eq_true, decide_eq_true_eq] at hq
    obtain ⟨⟨⟨⟨q1, q2⟩, q3⟩, q4⟩, q5⟩ := hq
    refine ⟨q1, kin_mem q2, kin_mem q3, ?_, ?_⟩
    · split at q4
      · rename_i u hu
        have := of_decide_eq_true q4
        subst this
        exact List.mem_filterMap.mpr ⟨_, kat_mem hu, rfl⟩
      · cases q4
    · obtain ⟨q, hq, hq2⟩ := List.any_eq_true.mp q5
      simp only [Bool.and_eq_true, beq_iff_eq] at hq2
      obtain ⟨q1', q2', q3'⟩ := q
      simp only at hq2
      obtain ⟨rfl, h2⟩ := hq2
      subst h2
      exact ⟨q3', hq⟩
  split at hk
  · rename_i ik is e0 e3 e4
    split at hk
    · rename_i ic e6 e9
      obtain ⟨k1, k2, k3, k4, k5⟩ := key ik is ic hk
      exact ke_throwC k1 hh0 k2 k3 k4 k5 hr hst e0 e3 (Or.inl ⟨e4, rfl⟩) e6 e9
    · cases hk
  · rename_i ik is e0 e3 e4
    split at hk
    · rename_i ic e6 e9
      obtain ⟨k1, k2, k3, k4, k5⟩ := key ik is ic hk
      exact ke_throwC k1 hh0 k2 k3 k4 k5 hr hst e0 e3 (Or.inr ⟨e4, rfl⟩) e6 e9
    · cases hk
  · cases hk
end KF1

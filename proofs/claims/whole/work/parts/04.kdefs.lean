/-! K: the system's heap as labels 1, 2, ..; what each holds: ints, longs, labels (0: null); label 0 is the law's script -/
abbrev KH : Type := (Nat → Nat → Int32) × (Nat → Nat → Int64) × (Nat → Nat → Nat) × (Nat → Nat × Nat) × Nat × Nat × Nat
def kI (h : KH) : Nat → Nat → Int32 := h.1
def kL (h : KH) : Nat → Nat → Int64 := h.2.1
def kR (h : KH) : Nat → Nat → Nat := h.2.2.1
def kK (h : KH) : Nat → Nat × Nat := h.2.2.2.1
def kN (h : KH) : Nat := h.2.2.2.2.1
def kC (h : KH) : Nat := h.2.2.2.2.2.1
def kS (h : KH) : Nat := h.2.2.2.2.2.2
def sI (h : KH) (a j : Nat) (v : Int32) : KH := (va_up h.1 a (upd (h.1 a) j v), h.2)
def sL (h : KH) (a j : Nat) (v : Int64) : KH := (h.1, va_up h.2.1 a (vp_updL (h.2.1 a) j v), h.2.2)
def sR (h : KH) (a j v : Nat) : KH := (h.1, h.2.1, va_up h.2.2.1 a (va_up (h.2.2.1 a) j v), h.2.2.2)
def knew (h : KH) (kd : Nat × Nat) (n : Nat) : KH :=
  (va_up (kI h) (kN h + 1) (fun _ => 0), va_up (kL h) (kN h + 1) (fun _ => 0), va_up (kR h) (kN h + 1) (fun _ => 0), va_up (kK h) (kN h + 1) kd, kN h + 1, kC h + 1, kS h + n)
def kexc (h : KH) : KH := (h.1, h.2.1, h.2.2.1, h.2.2.2.1, h.2.2.2.2.1, kC h + 1, kS h + 6)
/-- kinds of fields: 0 int, 1 long, 2 a reference, 3 boolean -/
def ktagOf (t : FieldType) : Nat := match t with
  | .int => 0
  | .long => 1
  | .boolean => 3
  | .array _ => 2
  | .object _ => 2
  | _ => 9
def ktyL : List (Nat → FieldType) := [tyX0, tyX1, tyX2, tyX3, tyX4, tyX5, tyX6, tyX7, tyX8, tyX9, tyX10, tyX11, tyX12]
def kty (ci : Nat) : Nat → FieldType := ktyL.getD ci (fun _ => .int)
def knf (ci : Nat) : Nat := match vwCl[ci]? with
  | some q => q.2.2
  | none => 0
def krv (ad : Nat → Nat) (r : Nat) : Value := if r = 0 then .null else .ref (ad r)
def kfv (ad : Nat → Nat) (h : KH) (a j tag : Nat) : Value := match tag with
  | 1 => .long (kL h a j)
  | 2 => krv ad (kR h a j)
  | _ => .int (kI h a j)
def kfl (ad : Nat → Nat) (h : KH) (a ci : Nat) : List Value := (List.range (knf ci)).map (fun j => kfv ad h a j (ktagOf (kty ci j)))
def kcell (cA : Nat → ClassId) (ad : Nat → Nat) (h : KH) (a : Nat) : va_E := match (kK h a).1 with
  | 0 => .inr ((kK h a).2, kfl ad h a (kK h a).2)
  | 1 => .inl (cA 1, (kK h a).2, .inl (kI h a))
  | 2 => .inl (cA 2, (kK h a).2, .inr (.inl (kL h a)))
  | 3 => .inl (cA 3, (kK h a).2, .inl (kI h a))
  | _ => .inl (cA 4, (kK h a).2, .inl (kI h a))
def kwld (cA : Nat → ClassId) (ad : Nat → Nat) (h : KH) : va_W := (List.range (kN h)).map (fun k => (ad (k + 1), kcell cA ad h (k + 1)))
def ktys (cA : Nat → ClassId) : List (ClassId × FieldType) := [(cA 1, .int), (cA 2, .long), (cA 3, .byte), (cA 4, .boolean)]
/-- values: labels into addresses; .null stands for the script -/
def ktr (b : Nat) (ad : Nat → Nat) (v : Value) : Value := match v with
  | .ref k => .ref (ad k)
  | .null => .ref b
  | v => v
def kvl (n : Nat) (v : Value) : Prop := match v with
  | .ref k => 1 ≤ k ∧ k ≤ n
  | .null => True
  | .int _ => True
  | .long _ => True
  | _ => False
def kwf (L : Nat) (xs : Nat → Int32) (h : KH) : Prop := (∀ a j, a ≤ kN h → kR h a j ≤ kN h) ∧ kK h 0 = (9, L) ∧ kI h 0 = xs
abbrev KO : Type := Option Value ⊕ String
/-- a method: its class, name, bytes, locals, answer, table; classes that it catches with where it goes on (behind astore) and the local; its blocks -/
abbrev KF : Type := Nat × Nat × Nat × Int32 × Int64 × MethodName × List Nat
abbrev KI : Type := Nat × Nat × Instr × KF
abbrev KB : Type := List KI
abbrev KM : Type := (String × MethodName × ByteArray × Nat × Option FieldType × List (Nat × Nat × Nat × Nat)) × List (String × Nat × Nat) × List (Nat × Bool × KB)
def kown (M : KM) : String := M.1.1
def kyn (M : KM) : MethodName := M.1.2.1
def kby (M : KM) : ByteArray := M.1.2.2.1
def kml (M : KM) : Nat := M.1.2.2.2.1
def krt (M : KM) : Option FieldType := M.1.2.2.2.2.1
def khh (M : KM) : List (Nat × Nat × Nat × Nat) := M.1.2.2.2.2.2
def kex (M : KM) : List (String × Nat × Nat) := M.2.1
def kbs (M : KM) : List (Nat × Bool × KB) := M.2.2
/-- the tables' words that all methods share, and those that are carried beside -/
def kgw : List Cond := lw_tbl.filter goodWord
def kewB (w : Cond) : Bool := w.onTables && (w.keepsFace || (match w with | .methodLinkNest _ _ _ _ => true | _ => false))
def kew : List Cond := lw_tbl.filter kewB
def kstrs : List (String × Nat × String) := lw_tbl.filterMap (fun w => match w with | .stringRef o k t => some (o, k, t) | _ => none)
abbrev kUN : String := "UNASSIGNED_STACK"
abbrev kSN : String := "SUPPRESSED_SENTINEL"
abbrev kIA : String := "java/lang/IllegalArgumentException"
abbrev kNE : String := "java/util/NoSuchElementException"
/-- what is carried beside the tables' good words, at a state -/
def kEnv (b L : Nat) (xs : Nat → Int32) (A : Nat → Prop) (D : va_G) (cA : Nat → ClassId) (U : State) : Prop :=
  va_K D vwCl (ktys cA) U ∧ (∀ w ∈ kew, va_Nw w U) ∧ (∀ q ∈ kstrs, ∃ sa, vk_R q.1 q.2.1 q.2.2 sa U) ∧ va_Nc kIA kNE U ∧ va_Nc kNE kIA U ∧
  va_X b L xs U U.heap ∧ b < U.heap.size ∧ ¬ A b ∧ vx_Zq Bundle.tN kUN Bundle.steD A U U.heap ∧ vx_Zq Bundle.tN kSN Bundle.listD A U U.heap
def kext (n : Nat) (ad ad' : Nat → Nat) : Prop := ∀ k, k ≤ n → ad' k = ad k
/-- the world behind a method -/
def kB (n : Nat) (b L : Nat) (xs : Nat → Int32) (A : Nat → Prop) (D : va_G) (cA : Nat → ClassId) (ad : Nat → Nat) (h : KH) (t : State) : Prop :=
  ∃ ad', kext n ad ad' ∧ va_P D vwCl (kwld cA ad' h) t.heap ∧ va_D A (kwld cA ad' h) ∧ kwf L xs h
def kPc (b L : Nat) (xs : Nat → Int32) (D : va_G) (cA : Nat → ClassId) (ad : Nat → Nat) (h : KH) (sz : Nat) (vs : List Value) : Array Value → State → Prop := fun a U =>
  a = (vs.map (ktr b ad)).toArray ∧ U.heap.size = sz ∧ va_P D vwCl (kwld cA ad h) U.heap ∧ va_D (fun _ => True) (kwld cA ad h) ∧ kEnv b L xs (va_A (kwld cA ad h) sz) D cA U
def kQc (n b L : Nat) (xs : Nat → Int32) (A : Nat → Prop) (D : va_G) (cA : Nat → ClassId) (ad : Nat → Nat) (o : KO) (h' : KH) : Array Value → State → Outcome → State → Prop := fun _ st oc t =>
  (∃ v, o = .inl v ∧ oc = .returned v ∧ kB n b L xs A D cA ad h' t) ∧ va_F A st t
def kXC (n b L : Nat) (xs : Nat → Int32) (A : Nat → Prop) (D : va_G) (cA : Nat → ClassId) (ad : Nat → Nat) (o : KO) (h' : KH) : String → State → State → Prop := fun E st t =>
  o = .inr E ∧ kB n b L xs A D cA ad h' t ∧ va_F A st t
def krm (r mc ms : Nat) : Room := { frames := r, cells := mc, slots := ms, locals := 60 * r }
def kup (h h' : KH) : Prop := kN h ≤ kN h' ∧ kC h ≤ kC h' ∧ kS h ≤ kS h'
/-- the values that may be handed to a method and come back -/
def kpl1 (v : Value) : Prop := match v with
  | .int _ => True
  | .long _ => True
  | _ => False
def kMet (r : Nat) (y : MethodName) (w : Cond) (vs : List Value) (h : KH) (o : KO) (h' : KH) : Prop :=
  ∀ (l : Launch) (D : va_G) (cA : Nat → ClassId) (ad : Nat → Nat) (b L : Nat) (xs : Nat → Int32) (sz : Nat), l.stackTraces = false → (∀ v ∈ vs, kvl (kN h) v) → kwf L xs h →
    vx_Met l y (w :: kgw) (krm r (kC h' - kC h) (kS h' - kS h)) (kPc b L xs D cA ad h sz vs) (kQc (kN h) b L xs (va_A (kwld cA ad h) sz) D cA ad o h') (kXC (kN h) b L xs (va_A (kwld cA ad h) sz) D cA ad o h') (kC h' - kC h) (kS h' - kS h) (va_A (kwld cA ad h) sz)
/-- a call of y: it comes to an end o with the heap h', of which Q holds -/
def kCalls (r : Nat) (y : MethodName) (vs : List Value) (h : KH) (Q : KO → KH → Prop) : Prop :=
  ∃ o h', kup h h' ∧ (∀ v, o = .inl (some v) → kpl1 v) ∧ (∃ (bytes : ByteArray) (maxL : Nat) (ret : Option FieldType), Cond.code y bytes maxL ret ∈ kgw ∧ maxL ≤ 40 ∧ kMet r y (Cond.code y bytes maxL ret) vs h o h') ∧ Q o h'
/-- the same, of a method with a table of handlers -/
def kCallsW (r : Nat) (y : MethodName) (vs : List Value) (h : KH) (Q : KO → KH → Prop) : Prop :=
  ∃ o h', kup h h' ∧ (∀ v, o = .inl (some v) → kpl1 v) ∧ (∃ (bytes : ByteArray) (maxL : Nat) (ret : Option FieldType) (hh : List (Nat × Nat × Nat × Nat)), Cond.codeWith y bytes maxL ret hh ∈ kgw ∧ maxL ≤ 40 ∧ kMet r y (Cond.codeWith y bytes maxL ret hh) vs h o h') ∧ Q o h'
/-- what stands while a body runs -/
def kSt (r : Nat) (M : KM) (p : Program) (l : Launch) (R : Room) (s : State) (m : MethodId) (args : Array Value) (meth : Method) (c : Code) (A : Nat → Prop) (D : va_G) (cA : Nat → ClassId) (b L : Nat) (xs : Nat → Int32) : Prop :=
  p.tables.exec = Jvm.exec ∧ c.code = kby M ∧ c.maxLocals = kml M ∧ s.vm.findClass (kown M) = some m.cls ∧ (∀ w ∈ kgw, w.before args s = true) ∧ kEnv b L xs A D cA s ∧ l.stackTraces = false ∧ meth.sig.returnType = krt M ∧ meth.locks = false ∧
  c.exceptionTable.toList = tableOf (khh M) ∧ ((kyn M).name = "<init>" → meth.name = "<init>") ∧ r ≤ R.frames ∧ 60 * r ≤ R.locals ∧ (∀ q, s.heap.size ≤ q → A q)
def kls (b : Nat) (ad : Nat → Nat) (ls : List (Option Value)) : List (Nat × Value) := (List.range ls.length).filterMap (fun i => match ls[i]? with | some (some v) => some (i, ktr b ad v) | _ => none)
def kDy (M : KM) (s : State) (A : Nat → Prop) (D : va_G) (cA : Nat → ClassId) (b L : Nat) (xs : Nat → Int32) (ad : Nat → Nat) (h : KH) (ls : List (Option Value)) (st : List Value) (H : Heap) (locs : List Loc) (jls : Array Slot) : Prop :=
  va_P D vwCl (kwld cA ad h) H ∧ va_D A (kwld cA ad h) ∧ va_S A s.heap H locs ∧ ls.length = kml M ∧ lv_has jls (kml M) (kls b ad ls) ∧ kwf L xs h ∧ (∀ (i : Nat) (v : Value), ls[i]? = some (some v) → kvl (kN h) v) ∧ (∀ v ∈ st, kvl (kN h) v)
def kEx (r : Nat) (M : KM) (pc : Nat) (ls : List (Option Value)) (st : List Value) (h : KH) (o : KO) (h' : KH) : Prop :=
  kup h h' ∧ (∀ v, o = .inl (some v) → kpl1 v) ∧ ∀ (p : Program) (l : Launch) (e : Env) (R : Room) (s : State) (m : MethodId) (args : Array Value) (below : List Frame) (meth : Method) (c : Code) (H : Heap) (locs : List Loc) (cells slots : Nat) (A : Nat → Prop) (D : va_G) (cA : Nat → ClassId) (b L : Nat) (xs : Nat → Int32) (ad ad0 : Nat → Nat) (jls : Array Slot) (n0 c0 s0 mc ms : Nat),
    kSt r M p l R s m args meth c A D cA b L xs → kDy M s A D cA b L xs ad h ls st H locs jls → kext n0 ad0 ad → n0 ≤ kN h → cells + c0 = kC h → slots + s0 = kS h → mc + c0 = kC h' → ms + s0 = kS h' → mc ≤ R.cells → ms ≤ R.slots →
    W p l e R s m args below meth c H locs cells slots (vx_MQ below (kQc n0 b L xs A D cA ad0 o h') (kXC n0 b L xs A D cA ad0 o h') args s mc ms A) (F0 m pc jls (st.map (ktr b ad)))
/-- from this place the body comes to an end, of which Q holds -/
def kRun (r : Nat) (M : KM) (pc : Nat) (ls : List (Option Value)) (st : List Value) (h : KH) (Q : KO → KH → Prop) : Prop :=
  ∃ o h', kEx r M pc ls st h o h' ∧ Q o h'
/-! the weakest start of a stretch of instructions -/
def kpi (st : List Value) (F : Int32 → List Value → Prop) : Prop := match st with
  | .int x :: r => F x r
  | _ => False
def kpl (st : List Value) (F : Int64 → List Value → Prop) : Prop := match st with
  | .long x :: r => F x r
  | _ => False
def kpr (st : List Value) (F : Nat → List Value → Prop) : Prop := match st with
  | .ref x :: r => F x r
  | _ => False
/-- a reference or the script -/
def kpa (st : List Value) (F : Value → List Value → Prop) : Prop := match st with
  | .ref x :: r => F (.ref x) r
  | .null :: r => F .null r
  | _ => False
/-- any value of one word -/
def kpv (st : List Value) (F : Value → List Value → Prop) : Prop := match st with
  | .int x :: r => F (.int x) r
  | .ref x :: r => F (.ref x) r
  | .null :: r => F .null r
  | _ => False
def kldi (ls : List (Option Value)) (k : Nat) (F : Int32 → Prop) : Prop := match ls[k]? with
  | some (some (.int x)) => F x
  | _ => False
def kldl (ls : List (Option Value)) (k : Nat) (F : Int64 → Prop) : Prop := match ls[k]? with
  | some (some (.long x)) => F x
  | _ => False
def klda (ls : List (Option Value)) (k : Nat) (F : Value → Prop) : Prop := match ls[k]? with
  | some (some (.ref x)) => F (.ref x)
  | some (some .null) => F .null
  | _ => False
def kcl (ls : List (Option Value)) (k : Nat) : List (Option Value) := match k with
  | 0 => ls
  | k + 1 => match ls[k]? with
    | some (some (.long _)) => ls.set k none
    | _ => ls
def kst1 (ls : List (Option Value)) (k : Nat) (v : Value) : List (Option Value) := (kcl ls k).set k (some v)
def kst2 (ls : List (Option Value)) (k : Nat) (v : Int64) : List (Option Value) := ((kcl ls k).set k (some (.long v))).set (k + 1) none
def kcat (st : List Value) : Nat := match st with
  | [] => 0
  | .long _ :: r => 2 + kcat r
  | .int _ :: r => 1 + kcat r
  | .ref _ :: r => 1 + kcat r
  | .null :: r => 1 + kcat r
  | _ :: r => 9 + kcat r
def kcnd (c : ClassFile.Cond) (x y : Int32) : Prop := match c with
  | .eq => x = y
  | .ne => ¬ x = y
  | .lt => x < y
  | .ge => y ≤ x
  | .gt => y < x
  | .le => x ≤ y
def kargs (n : Nat) (acc st : List Value) (F : List Value → List Value → Prop) : Prop := match n, st with
  | 0, st => F acc st
  | n + 1, v :: st => kargs n (v :: acc) st F
  | _ + 1, [] => False
def ksw (x : Int32) (i : Int) (offs : List Int) (J : Int → Prop) (d : Int) : Prop := match offs with
  | [] => J d
  | f :: r => (x = Int32.ofInt i → J f) ∧ (¬ x = Int32.ofInt i → ksw x (i + 1) r J d)
section KW
variable (r : Nat) (M : KM) (Q : KO → KH → Prop)
def kto (go : KB → List (Option Value) → List Value → KH → Prop) (pc : Nat) (ls : List (Option Value)) (st : List Value) (h : KH) : Prop := match (kbs M).find? (fun q => q.1 == pc) with
  | some (_, false, blk) => go blk ls st h
  | _ => kRun r M pc ls st h Q
def kx (go : KB → List (Option Value) → List Value → KH → Prop) (ls : List (Option Value)) (E : String) (h : KH) : Prop := match kex M with
  | [] => Q (.inr E) h
  | x => match x.find? (fun q => q.1 == E) with
    | some (_, pc, k) => kto r M Q go pc ((kcl ls k).set k none) [] h
    | none => False
def kret (go : KB → List (Option Value) → List Value → KH → Prop) (rest : KB) (ls : List (Option Value)) (st : List Value) (X : String → KH → Prop) : KO → KH → Prop := fun o h => match o with
  | .inl none => go rest ls st h
  | .inl (some v) => go rest ls (v :: st) h
  | .inr E => X E h
def kinv (go : KB → List (Option Value) → List Value → KH → Prop) (f : KF) (rest : KB) (ls : List (Option Value)) (st : List Value) (h : KH) : Prop := match f.1 with
  | 0 => kargs f.2.1 [] st fun as st => kpr st fun o st => kK h o = (0, f.2.2.1) ∧ kcat st ≤ 8 ∧ 2 ≤ r ∧ kCalls (r - 1) f.2.2.2.2.2.1 (.ref o :: as) h (kret go rest ls st (kx r M Q go ls))
  | 1 => kargs f.2.1 [] st fun as st => kcat st ≤ 8 ∧ 2 ≤ r ∧ kCalls (r - 1) f.2.2.2.2.2.1 as h (kret go rest ls st (kx r M Q go ls))
  | 2 => kargs f.2.1 [] st fun as st => kpr st fun o st => kcat st ≤ 8 ∧ 2 ≤ r ∧ kCalls (r - 1) f.2.2.2.2.2.1 (.ref o :: as) h (kret go rest ls st (fun _ _ => False))
  | 3 => kargs f.2.1 [] st fun as st => kcat st ≤ 8 ∧ 2 ≤ r ∧ kCalls (r - 1) f.2.2.2.2.2.1 as h (kret go rest ls st (fun _ _ => False))
  | 4 => kargs f.2.1 [] st fun as st => kpr st fun o st => kcat st ≤ 8 ∧ 2 ≤ r ∧ kCalls (r - 1) f.2.2.2.2.2.1 (.ref o :: as) h (kret go rest ls st (fun _ _ => False))
  | 5 => kpr st fun _ st => kcat st ≤ 8 ∧ 2 ≤ r ∧ go rest ls st h
  | 6 => kargs f.2.1 [] st fun as st => kcat st ≤ 8 ∧ 2 ≤ r ∧ kCallsW (r - 1) f.2.2.2.2.2.1 as h (kret go rest ls st (fun _ _ => False))
  | 7 => kpi st fun y st => kpi st fun x st => kcat st ≤ 8 ∧ 2 ≤ r ∧ go rest ls (.int (if y < x then y else x) :: st) h
  | 8 => kpl st fun y st => kpl st fun x st => kcat st ≤ 8 ∧ 2 ≤ r ∧ go rest ls (.long (if y < x then y else x) :: st) h
  | _ => False
def kgetf (go : KB → List (Option Value) → List Value → KH → Prop) (f : KF) (rest : KB) (ls : List (Option Value)) (st : List Value) (h : KH) : Prop := kpr st fun o st => kK h o = (0, f.1) ∧ match f.2.2.1 with
  | 0 => go rest ls (.int (kI h o f.2.1) :: st) h
  | 1 => go rest ls (.long (kL h o f.2.1) :: st) h
  | 2 => kR h o f.2.1 ≠ 0 ∧ go rest ls (.ref (kR h o f.2.1) :: st) h
  | 3 => go rest ls (.int (kI h o f.2.1) :: st) h
  | _ => False
def kputf (go : KB → List (Option Value) → List Value → KH → Prop) (f : KF) (rest : KB) (ls : List (Option Value)) (st : List Value) (h : KH) : Prop := match f.2.2.1 with
  | 0 => kpi st fun x st => kpr st fun o st => kK h o = (0, f.1) ∧ go rest ls st (sI h o f.2.1 x)
  | 1 => kpl st fun x st => kpr st fun o st => kK h o = (0, f.1) ∧ go rest ls st (sL h o f.2.1 x)
  | 2 => kpr st fun x st => kpr st fun o st => x ≠ 0 ∧ kK h o = (0, f.1) ∧ go rest ls st (sR h o f.2.1 x)
  | 3 => kpi st fun x st => kpr st fun o st => (x = 0 ∨ x = 1) ∧ kK h o = (0, f.1) ∧ go rest ls st (sI h o f.2.1 x)
  | _ => False
def kstep (go : KB → List (Option Value) → List Value → KH → Prop) (i : KI) (rest : KB) (ls : List (Option Value)) (st : List Value) (h : KH) : Prop := match i.2.2.1 with
  | .nop => kto r M Q go i.1 ls st h
  | .aload k => klda ls k fun v => go rest ls (v :: st) h
  | .aload_n k => klda ls k.val fun v => go rest ls (v :: st) h
  | .iload k => kldi ls k fun x => go rest ls (.int x :: st) h
  | .iload_n k => kldi ls k.val fun x => go rest ls (.int x :: st) h
  | .lload k => kldl ls k fun x => go rest ls (.long x :: st) h
  | .lload_n k => kldl ls k.val fun x => go rest ls (.long x :: st) h
  | .istore k => kpi st fun x st => go rest (kst1 ls k (.int x)) st h
  | .istore_n k => kpi st fun x st => go rest (kst1 ls k.val (.int x)) st h
  | .lstore k => kpl st fun x st => go rest (kst2 ls k x) st h
  | .lstore_n k => kpl st fun x st => go rest (kst2 ls k.val x) st h
  | .astore k => kpa st fun v st => go rest (kst1 ls k v) st h
  | .astore_n k => kpa st fun v st => go rest (kst1 ls k.val v) st h
  | .iconst _ => go rest ls (.int i.2.2.2.2.2.2.1 :: st) h
  | .bipush _ => go rest ls (.int i.2.2.2.2.2.2.1 :: st) h
  | .sipush _ => go rest ls (.int i.2.2.2.2.2.2.1 :: st) h
  | .ldc _ => go rest ls (.int i.2.2.2.2.2.2.1 :: st) h
  | .ldc_w _ => go rest ls (.int i.2.2.2.2.2.2.1 :: st) h
  | .lconst _ => go rest ls (.long i.2.2.2.2.2.2.2.1 :: st) h
  | .ldc2_w _ => go rest ls (.long i.2.2.2.2.2.2.2.1 :: st) h
  | .iinc k _ => kldi ls k fun x => go rest (kst1 ls k (.int (x + i.2.2.2.2.2.2.1))) st h
  | .iadd => kpi st fun y st => kpi st fun x st => go rest ls (.int (x + y) :: st) h
  | .isub => kpi st fun y st => kpi st fun x st => go rest ls (.int (x - y) :: st) h
  | .imul => kpi st fun y st => kpi st fun x st => go rest ls (.int (x * y) :: st) h
  | .iand => kpi st fun y st => kpi st fun x st => go rest ls (.int (x &&& y) :: st) h
  | .ior => kpi st fun y st => kpi st fun x st => go rest ls (.int (x ||| y) :: st) h
  | .ixor => kpi st fun y st => kpi st fun x st => go rest ls (.int (x ^^^ y) :: st) h
  | .idiv => kpi st fun y st => kpi st fun x st => ¬ y = 0 ∧ go rest ls (.int (x / y) :: st) h
  | .irem => kpi st fun y st => kpi st fun x st => ¬ y = 0 ∧ go rest ls (.int (x - x / y * y) :: st) h
  | .ineg => kpi st fun x st => go rest ls (.int (-x) :: st) h
  | .ishl => kpi st fun y st => kpi st fun x st => go rest ls (.int (x <<< (y &&& 31)) :: st) h
  | .ishr => kpi st fun y st => kpi st fun x st => go rest ls (.int (x >>> (y &&& 31)) :: st) h
  | .iushr => kpi st fun y st => kpi st fun x st => go rest ls (.int (x.toUInt32 >>> (y.toUInt32 &&& Int32.toUInt32 31)).toInt32 :: st) h
  | .ladd => kpl st fun y st => kpl st fun x st => go rest ls (.long (x + y) :: st) h
  | .lsub => kpl st fun y st => kpl st fun x st => go rest ls (.long (x - y) :: st) h
  | .lmul => kpl st fun y st => kpl st fun x st => go rest ls (.long (x * y) :: st) h
  | .land => kpl st fun y st => kpl st fun x st => go rest ls (.long (x &&& y) :: st) h
  | .lor => kpl st fun y st => kpl st fun x st => go rest ls (.long (x ||| y) :: st) h
  | .lxor => kpl st fun y st => kpl st fun x st => go rest ls (.long (x ^^^ y) :: st) h
  | .ldiv => kpl st fun y st => kpl st fun x st => ¬ y = 0 ∧ go rest ls (.long (x / y) :: st) h
  | .lshl => kpi st fun y st => kpl st fun x st => go rest ls (.long (x <<< (y.toInt64 &&& 63)) :: st) h
  | .lshr => kpi st fun y st => kpl st fun x st => go rest ls (.long (x >>> (y.toInt64 &&& 63)) :: st) h
  | .lushr => kpi st fun y st => kpl st fun x st => go rest ls (.long (x.toUInt64 >>> (y.toInt64.toUInt64 &&& Int64.toUInt64 63)).toInt64 :: st) h
  | .i2l => kpi st fun x st => go rest ls (.long x.toInt64 :: st) h
  | .l2i => kpl st fun x st => go rest ls (.int x.toInt32 :: st) h
  | .i2b => kpi st fun x st => go rest ls (.int x.toInt8.toInt32 :: st) h
  | .lcmp => kpl st fun y st => kpl st fun x st => go rest ls (.int (lg_cmp x y) :: st) h
  | .dup => kpv st fun v st => go rest ls (v :: v :: st) h
  | .dup2 => kpv st fun v st => kpv st fun w st => go rest ls (v :: w :: v :: w :: st) h
  | .pop => kpv st fun _ st => go rest ls st h
  | .ifCond c _ => kpi st fun x st => (kcnd c x 0 → kto r M Q go i.2.2.2.1 ls st h) ∧ (¬ kcnd c x 0 → go rest ls st h)
  | .if_icmp c _ => kpi st fun y st => kpi st fun x st => (kcnd c x y → kto r M Q go i.2.2.2.1 ls st h) ∧ (¬ kcnd c x y → go rest ls st h)
  | .goto _ => kto r M Q go i.2.2.2.1 ls st h
  | .tableswitch d lo _ offs => kpi st fun x st => ksw x lo offs.toList (fun f => kto r M Q go ((i.1 : Int) + f).toNat ls st h) d
  | .getfield _ => kgetf go i.2.2.2 rest ls st h
  | .putfield _ => kputf go i.2.2.2 rest ls st h
  | .iaload => kpi st fun j st => kpa st fun v st => match v with
    | .ref a => (kK h a).1 = 1 ∧ vp_in j (kK h a).2 ∧ go rest ls (.int (kI h a j.toNatClampNeg) :: st) h
    | _ => vp_in j (kK h 0).2 ∧ go rest ls (.int (kI h 0 j.toNatClampNeg) :: st) h
  | .laload => kpi st fun j st => kpr st fun a st => (kK h a).1 = 2 ∧ vp_in j (kK h a).2 ∧ go rest ls (.long (kL h a j.toNatClampNeg) :: st) h
  | .baload => kpi st fun j st => kpr st fun a st => ((kK h a).1 = 3 ∨ (kK h a).1 = 4) ∧ vp_in j (kK h a).2 ∧ go rest ls (.int (kI h a j.toNatClampNeg) :: st) h
  | .iastore => kpi st fun x st => kpi st fun j st => kpr st fun a st => (kK h a).1 = 1 ∧ vp_in j (kK h a).2 ∧ go rest ls st (sI h a j.toNatClampNeg x)
  | .lastore => kpl st fun x st => kpi st fun j st => kpr st fun a st => (kK h a).1 = 2 ∧ vp_in j (kK h a).2 ∧ go rest ls st (sL h a j.toNatClampNeg x)
  | .bastore => kpi st fun x st => kpi st fun j st => kpr st fun a st => vp_in j (kK h a).2 ∧ (((kK h a).1 = 3 ∧ go rest ls st (sI h a j.toNatClampNeg (vp_nar .byte x))) ∨ ((kK h a).1 = 4 ∧ go rest ls st (sI h a j.toNatClampNeg (vp_nar .boolean x))))
  | .arraylength => kpa st fun v st => match v with
    | .ref a => (1 ≤ (kK h a).1 ∧ (kK h a).1 ≤ 4) ∧ go rest ls (.int (nI (kK h a).2) :: st) h
    | _ => go rest ls (.int (nI (kK h 0).2) :: st) h
  | .new _ => go rest ls (.ref (kN h + 1) :: st) (knew h (0, i.2.2.2.1) i.2.2.2.2.1)
  | .newarray _ => kpi st fun x st => ¬ x < 0 ∧ x.toNatClampNeg ≤ 100000 ∧ go rest ls (.ref (kN h + 1) :: st) (knew h (i.2.2.2.1, x.toNatClampNeg) x.toNatClampNeg)
  | .invokevirtual _ => kinv r M Q go i.2.2.2 rest ls st h
  | .invokestatic _ => kinv r M Q go i.2.2.2 rest ls st h
  | .invokespecial _ => kinv r M Q go i.2.2.2 rest ls st h
  | .ireturn => match st with
    | [.int x] => (i.2.2.2.1 = 1 → x = 0 ∨ x = 1) ∧ Q (.inl (some (.int x))) h
    | _ => False
  | .lreturn => match st with
    | [.long x] => Q (.inl (some (.long x))) h
    | _ => False
  | .return_ => match st with
    | [] => Q (.inl none) h
    | _ => False
  | .athrow => kcat st ≤ 8 ∧ 8 ≤ r ∧ Q (.inr i.2.2.2.2.2.2.2.2.1.cls) (kexc h)
  | _ => False
def kwp : Nat → KB → List (Option Value) → List Value → KH → Prop
  | 0, blk, ls, st, h => (match blk with
    | [] => False
    | i :: _ => kRun r M i.1 ls st h Q)
  | n + 1, blk, ls, st, h => (match blk with
    | [] => False
    | i :: rest => kstep r M Q (kwp n) i rest ls st h)
end KW
/-! what is checked of a method's blocks, by program -/
def kin (i : Nat) (w : Cond) : Bool := (match kat i with
  | some u => decide (u = w)
  | none => false) && goodWord w
def kinE (i : Nat) (w : Cond) : Bool := (match kat i with
  | some u => decide (u = w)
  | none => false) && kewB w
def kname (ci j : Nat) : String × String × String × Bool := match vwCl[ci]? with
  | some q => q.2.1 j
  | none => ("", "", "", false)
def kcls (ci : Nat) : String := match vwCl[ci]? with
  | some q => q.1
  | none => ""
def khead (M : KM) (pc : Nat) : Bool := match (kbs M).find? (fun q => q.1 == pc) with
  | some (_, _, i :: _) => i.1 == pc
  | _ => false
def kntag (t : Nat) : ArrayType := match t with
  | 1 => .int
  | 2 => .long
  | 3 => .byte
  | _ => .boolean
def karity (y : MethodName) : Option Nat := (parseMethodDescriptor y.desc).map (fun d => d.parameters.length)
def kplain (y : MethodName) : Bool := decide (y.cls ≠ "java/lang/invoke/MethodHandle") && decide (y.cls ≠ "java/lang/invoke/VarHandle")
def kokh (M : KM) (pc : Nat) (x : Nat × Nat × Nat × Nat) (E : String) (pc2 k : Nat) : Bool := covers ⟨x.1, x.2.1, x.2.2.1, x.2.2.2⟩ pc && decide (x.2.2.2 ≠ 0) && lw_tbl.contains (.classLink (kown M) x.2.2.2 E) && lw_tbl.contains (.castable E E) && decide (k < kml M) && khead M pc2 && (match decode (kby M) x.2.2.1 with
  | .ok (.astore_n q, 1) => q.val == k && pc2 == x.2.2.1 + 1
  | .ok (.astore q, 2) => q == k && pc2 == x.2.2.1 + 2
  | _ => false)
def kokex (M : KM) (pc : Nat) : Bool := match khh M, kex M with
  | [], [] => true
  | [x], [(E, pc2, k)] => kokh M pc x E pc2 k
  | [x, y], [(E, pc2, k), (F, pc3, j)] => kokh M pc x E pc2 k && kokh M pc y F pc3 j && decide (E = kIA) && decide (F = kNE)
  | _, _ => false
def kokinv (M : KM) (pc : Nat) (f : KF) (ix : Nat) (virt stat : Bool) : Bool := kplain f.2.2.2.2.2.1 && (match f.1 with
  | 0 => virt && kokex M pc && decide (karity f.2.2.2.2.2.1 = some f.2.1) && decide (f.2.2.2.2.2.1.cls = kcls f.2.2.1) && kin (f.2.2.2.2.2.2.getD 0 0) (.methodLink (kown M) ix f.2.2.2.2.2.1) && kin (f.2.2.2.2.2.2.getD 1 0) (.instanceMethod f.2.2.2.2.2.1) && kin (f.2.2.2.2.2.2.getD 2 0) (.selects (kcls f.2.2.1) f.2.2.2.2.2.1 f.2.2.2.2.2.1) && kin (f.2.2.2.2.2.2.getD 3 0) (.initialized f.2.2.2.2.2.1.cls) && decide (f.2.2.1 < 13)
  | 1 => stat && decide (khh M = []) && decide (kex M = []) && decide (karity f.2.2.2.2.2.1 = some f.2.1) && kin (f.2.2.2.2.2.2.getD 0 0) (.methodLink (kown M) ix f.2.2.2.2.2.1) && kin (f.2.2.2.2.2.2.getD 1 0) (.static f.2.2.2.2.2.1) && kin (f.2.2.2.2.2.2.getD 2 0) (.initialized f.2.2.2.2.2.1.cls)
  | 2 => !virt && !stat && decide (karity f.2.2.2.2.2.1 = some f.2.1) && kin (f.2.2.2.2.2.2.getD 0 0) (.methodLink (kown M) ix f.2.2.2.2.2.1) && kin (f.2.2.2.2.2.2.getD 1 0) (.instanceMethod f.2.2.2.2.2.1) && kin (f.2.2.2.2.2.2.getD 2 0) (.initialized f.2.2.2.2.2.1.cls) && decide (f.2.2.2.2.2.1.name = "<init>")
  | 3 => stat && decide (karity f.2.2.2.2.2.1 = some f.2.1) && kinE (f.2.2.2.2.2.2.getD 0 0) (.methodLinkNest (kown M) ix f.2.2.2.2.2.1 "PhraseLearner") && kin (f.2.2.2.2.2.2.getD 1 0) (.static f.2.2.2.2.2.1) && kin (f.2.2.2.2.2.2.getD 2 0) (.initialized f.2.2.2.2.2.1.cls)
  | 4 => !virt && !stat && decide (karity f.2.2.2.2.2.1 = some f.2.1) && kinE (f.2.2.2.2.2.2.getD 0 0) (.methodLinkNest (kown M) ix f.2.2.2.2.2.1 "PhraseLearner") && kin (f.2.2.2.2.2.2.getD 1 0) (.instanceMethod f.2.2.2.2.2.1) && kin (f.2.2.2.2.2.2.getD 2 0) (.initialized f.2.2.2.2.2.1.cls) && decide (f.2.2.2.2.2.1.name = "<init>")
  | 5 => !virt && !stat && kin (f.2.2.2.2.2.2.getD 0 0) (.methodLink (kown M) ix Lib.objectInit) && kin (f.2.2.2.2.2.2.getD 1 0) (.instanceMethod Lib.objectInit) && kin (f.2.2.2.2.2.2.getD 2 0) (.code Lib.objectInit ⟨#[0xb1]⟩ 1 none)
  | 6 => stat && decide (karity f.2.2.2.2.2.1 = some f.2.1) && kin (f.2.2.2.2.2.2.getD 0 0) (.methodLink (kown M) ix f.2.2.2.2.2.1) && kin (f.2.2.2.2.2.2.getD 1 0) (.static f.2.2.2.2.2.1) && kin (f.2.2.2.2.2.2.getD 2 0) (.initialized f.2.2.2.2.2.1.cls)
  | 7 => stat && kin (f.2.2.2.2.2.2.getD 0 0) (.methodLink (kown M) ix Lib.Math.min.name) && kin (f.2.2.2.2.2.2.getD 1 0) (.static Lib.Math.min.name) && kin (f.2.2.2.2.2.2.getD 2 0) (.initialized "java/lang/Math") && kin (f.2.2.2.2.2.2.getD 3 0) (.code Lib.Math.min.name Lib.Math.min.code 2 (some .int))
  | 8 => stat && kin (f.2.2.2.2.2.2.getD 0 0) (.methodLink (kown M) ix Lib.MathLoose.min_long.x) && kin (f.2.2.2.2.2.2.getD 1 0) (.static Lib.MathLoose.min_long.x) && kin (f.2.2.2.2.2.2.getD 2 0) (.initialized "java/lang/Math") && kin (f.2.2.2.2.2.2.getD 3 0) (.code Lib.MathLoose.min_long.x Lib.MathLoose.min_long.code 4 (some .long))
  | _ => false)
def kokfld (M : KM) (f : KF) (ix : Nat) : Bool := decide (f.1 < 13) && decide (f.2.1 < knf f.1) && decide (ktagOf (kty f.1 f.2.1) = f.2.2.1) && kin (f.2.2.2.2.2.2.getD 0 0) (.fieldLink (kown M) ix (kname f.1 f.2.1).1 (kname f.1 f.2.1).2.1 (kname f.1 f.2.1).2.2.1)
def kokput (M : KM) (ci j : Nat) : Bool := !(kname ci j).2.2.2 || (decide ((kyn M).name = "<init>") && decide ((kname ci j).1 = kown M))
/-- throws of E: new, dup, ldc, <init>, athrow; the constructors' numbers in the class -/
def kthrowChain : List String := ["java/lang/RuntimeException", "java/lang/Exception"]
def kthr (M : KM) (f : KF) (ik is ic : Nat) : Bool := decide (kown M = "PhraseLearner") && kin (f.2.2.2.2.2.2.getD 0 0) (.classLink (kown M) ik f.2.2.2.2.2.1.cls) && kin (f.2.2.2.2.2.2.getD 1 0) (.initialized f.2.2.2.2.2.1.cls) && (match kat (f.2.2.2.2.2.2.getD 2 0) with
  | some u => decide (u = .stringRef (kown M) is f.2.2.2.2.2.1.name)
  | none => false) && kthrTab.any (fun q => q.1 == ic && q.2.1 == f.2.2.2.2.2.1.cls)
def kokthr (M : KM) (i : KI) : Bool := decide (khh M = []) && (match decode (kby M) i.1, decode (kby M) (i.1 + 3), decode (kby M) (i.1 + 4) with
  | .ok (.new ik, 3), .ok (.dup, 1), .ok (.ldc is, 2) => (match decode (kby M) (i.1 + 6), decode (kby M) (i.1 + 9) with
    | .ok (.invokespecial ic, 3), .ok (.athrow, 1) => kthr M i.2.2.2 ik is ic
    | _, _ => false)
  | .ok (.new ik, 3), .ok (.dup, 1), .ok (.ldc_w is, 3) => (match decode (kby M) (i.1 + 7), decode (kby M) (i.1 + 10) with
    | .ok (.invokespecial ic, 3), .ok (.athrow, 1) => kthr M i.2.2.2 ik is ic
    | _, _ => false)
  | _, _, _ => false)
def kilen (ins : Instr) : Nat := match ins with
  | .aload _ => 2
  | .iload _ => 2
  | .lload _ => 2
  | .istore _ => 2
  | .lstore _ => 2
  | .astore _ => 2
  | .bipush _ => 2
  | .ldc _ => 2
  | .newarray _ => 2
  | .sipush _ => 3
  | .ldc_w _ => 3
  | .ldc2_w _ => 3
  | .iinc _ _ => 3
  | .ifCond _ _ => 3
  | .if_icmp _ _ => 3
  | .goto _ => 3
  | .getfield _ => 3
  | .putfield _ => 3
  | .new _ => 3
  | .invokevirtual _ => 3
  | .invokestatic _ => 3
  | .invokespecial _ => 3
  | .tableswitch _ _ _ _ => 0
  | _ => 1
def kokI (M : KM) (i : KI) : Bool := match i.2.2.1 with
  | .nop => khead M i.1
  | .athrow => kokthr M i
  | ins => decide (decode (kby M) i.1 = .ok (ins, i.2.1)) && decide (kilen ins = 0 ∨ i.2.1 = kilen ins) && (match ins with
    | .istore k => decide (k < kml M)
    | .istore_n k => decide (k.val < kml M)
    | .astore k => decide (k < kml M)
    | .astore_n k => decide (k.val < kml M)
    | .lstore k => decide (k + 1 < kml M)
    | .lstore_n k => decide (k.val + 1 < kml M)
    | .iinc k n => decide (k < kml M) && decide (Int32.ofInt n = i.2.2.2.2.2.2.1)
    | .iconst n => decide (Int32.ofInt n = i.2.2.2.2.2.2.1)
    | .bipush n => decide ((Int8.ofInt n).toInt32 = i.2.2.2.2.2.2.1)
    | .sipush n => decide ((Int16.ofInt n).toInt32 = i.2.2.2.2.2.2.1)
    | .lconst n => decide (Int64.ofNat n.val = i.2.2.2.2.2.2.2.1)
    | .ldc k => kin (i.2.2.2.2.2.2.2.2.2.getD 0 0) (.constant (kown M) k i.2.2.2.2.2.2.1)
    | .ldc_w k => kin (i.2.2.2.2.2.2.2.2.2.getD 0 0) (.constant (kown M) k i.2.2.2.2.2.2.1)
    | .ldc2_w k => kin (i.2.2.2.2.2.2.2.2.2.getD 0 0) (.constantLong (kown M) k i.2.2.2.2.2.2.2.1)
    | .ifCond _ off => decide ((i.1 : Int) + off = (i.2.2.2.1 : Int)) && khead M i.2.2.2.1
    | .if_icmp _ off => decide ((i.1 : Int) + off = (i.2.2.2.1 : Int)) && khead M i.2.2.2.1
    | .goto off => decide ((i.1 : Int) + off = (i.2.2.2.1 : Int)) && khead M i.2.2.2.1
    | .tableswitch d lo hi offs => decide (hi = lo + offs.size - 1) && decide (-1000 < lo) && decide (hi < 1000) && decide (0 ≤ (i.1 : Int) + d) && khead M ((i.1 : Int) + d).toNat && offs.toList.all (fun f => decide (0 ≤ (i.1 : Int) + f) && khead M ((i.1 : Int) + f).toNat)
    | .getfield ix => kokfld M i.2.2.2 ix
    | .putfield ix => kokfld M i.2.2.2 ix && kokput M i.2.2.2.1 i.2.2.2.2.1
    | .new ix => decide (i.2.2.2.1 < 13) && decide (i.2.2.2.2.1 = knf i.2.2.2.1) && kin (i.2.2.2.2.2.2.2.2.2.getD 0 0) (.classLink (kown M) ix (kcls i.2.2.2.1)) && kin (i.2.2.2.2.2.2.2.2.2.getD 1 0) (.instantiable (kcls i.2.2.2.1) (knf i.2.2.2.1)) && kin (i.2.2.2.2.2.2.2.2.2.getD 2 0) (.initialized (kcls i.2.2.2.1))
    | .newarray t => decide (t = kntag i.2.2.2.1) && decide (1 ≤ i.2.2.2.1) && decide (i.2.2.2.1 ≤ 4)
    | .invokevirtual ix => kokinv M i.1 i.2.2.2 ix true false
    | .invokestatic ix => kokinv M i.1 i.2.2.2 ix false true
    | .invokespecial ix => kokinv M i.1 i.2.2.2 ix false false
    | .ireturn => (decide (krt M = some .int) && decide (i.2.2.2.1 = 0)) || (decide (krt M = some .boolean) && decide (i.2.2.2.1 = 1))
    | .lreturn => decide (krt M = some .long)
    | .return_ => decide (krt M = none)
    | _ => true)
def kokB (M : KM) : KB → Bool
  | [] => true
  | i :: rest => kokI M i && (match rest with
    | [] => true
    | j :: _ => decide (j.1 = i.1 + i.2.1)) && kokB M rest
def kok (M : KM) : Bool := decide (kml M ≤ 40) && (kbs M).all (fun q => kokB M q.2.2) && decide (kown M = (kyn M).cls) && plainName (kyn M).cls

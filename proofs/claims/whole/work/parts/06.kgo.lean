/-- a step of the body: from one place to the next -/
def kGo (r : Nat) (M : KM) (pc : Nat) (ls : List (Option Value)) (st : List Value) (h : KH) (pc2 : Nat) (ls2 : List (Option Value)) (st2 : List Value) (h2 : KH) : Prop :=
  kup h h2 ∧ ∀ (p : Program) (l : Launch) (e : Env) (R : Room) (s : State) (m : MethodId) (args : Array Value) (below : List Frame) (meth : Method) (c : Code) (H : Heap) (locs : List Loc) (cells slots : Nat) (A : Nat → Prop) (D : va_G) (cA : Nat → ClassId) (b L : Nat) (xs : Nat → Int32) (ad : Nat → Nat) (jls : Array Slot) (c0 s0 : Nat) (Q : State → Prop),
    kSt r M p l R s m args meth c A D cA b L xs → kDy M s A D cA b L xs ad h ls st H locs jls → cells + c0 = kC h → slots + s0 = kS h → kC h2 ≤ c0 + R.cells → kS h2 ≤ s0 + R.slots →
    (∀ (H2 : Heap) (locs2 : List Loc) (jls2 : Array Slot) (ad2 : Nat → Nat) (cells2 slots2 : Nat), kDy M s A D cA b L xs ad2 h2 ls2 st2 H2 locs2 jls2 → kext (kN h) ad ad2 → cells2 + c0 = kC h2 → slots2 + s0 = kS h2 → W p l e R s m args below meth c H2 locs2 cells2 slots2 Q (F0 m pc2 jls2 (st2.map (ktr b ad2)))) →
    W p l e R s m args below meth c H locs cells slots Q (F0 m pc jls (st.map (ktr b ad)))
theorem kEx_go {r : Nat} {M : KM} {pc pc2 : Nat} {ls ls2 : List (Option Value)} {st st2 : List Value} {h h2 h' : KH} {o : KO} (g : kGo r M pc ls st h pc2 ls2 st2 h2) (k : kEx r M pc2 ls2 st2 h2 o h') : kEx r M pc ls st h o h' := by
  refine ⟨kup_tr g.1 k.1, k.2.1, ?_⟩
  intro p l e R s m args below meth c H locs cells slots A D cA b L xs ad ad0 jls n0 c0 s0 mc ms hSt hDy hext hn0 hc hs hmc hms hRc hRs
  refine g.2 p l e R s m args below meth c H locs cells slots A D cA b L xs ad jls c0 s0 _ hSt hDy hc hs ?_ ?_ ?_
  · have := k.1.2.1; omega
  · have := k.1.2.2; omega
  · intro H2 locs2 jls2 ad2 cells2 slots2 hDy2 hext2 hc2 hs2
    exact k.2.2 p l e R s m args below meth c H2 locs2 cells2 slots2 A D cA b L xs ad2 ad0 jls2 n0 c0 s0 mc ms hSt hDy2 (kext_tr hext hn0 hext2) (Nat.le_trans hn0 g.1.1) hc2 hs2 hmc hms hRc hRs
theorem kRun_go {r : Nat} {M : KM} {pc pc2 : Nat} {ls ls2 : List (Option Value)} {st st2 : List Value} {h h2 : KH} {Q : KO → KH → Prop} (g : kGo r M pc ls st h pc2 ls2 st2 h2) (k : kRun r M pc2 ls2 st2 h2 Q) : kRun r M pc ls st h Q := by
  obtain ⟨o, h', k1, k2⟩ := k
  exact ⟨o, h', kEx_go g k1, k2⟩
theorem kDy_stk {M : KM} {s : State} {A : Nat → Prop} {D : va_G} {cA : Nat → ClassId} {b L : Nat} {xs : Nat → Int32} {ad : Nat → Nat} {h : KH} {ls : List (Option Value)} {st st2 : List Value} {H : Heap} {locs : List Loc} {jls : Array Slot} (d : kDy M s A D cA b L xs ad h ls st H locs jls) (hs : ∀ v ∈ st2, kvl (kN h) v) : kDy M s A D cA b L xs ad h ls st2 H locs jls := ⟨d.1, d.2.1, d.2.2.1, d.2.2.2.1, d.2.2.2.2.1, d.2.2.2.2.2.1, d.2.2.2.2.2.2.1, hs⟩
/-- a step that touches the stack alone -/
theorem kGo_stk {r : Nat} {M : KM} {pc pc2 : Nat} {ls : List (Option Value)} {st st2 : List Value} {h : KH} (hv : (∀ v ∈ st, kvl (kN h) v) → (∀ (i : Nat) (v : Value), ls[i]? = some (some v) → kvl (kN h) v) → ∀ v ∈ st2, kvl (kN h) v)
    (f : ∀ (p : Program) (l : Launch) (e : Env) (R : Room) (s : State) (m : MethodId) (args : Array Value) (below : List Frame) (meth : Method) (c : Code) (H : Heap) (locs : List Loc) (cells slots : Nat) (A : Nat → Prop) (D : va_G) (cA : Nat → ClassId) (b L : Nat) (xs : Nat → Int32) (ad : Nat → Nat) (jls : Array Slot) (Q : State → Prop),
      kSt r M p l R s m args meth c A D cA b L xs → kDy M s A D cA b L xs ad h ls st H locs jls → W p l e R s m args below meth c H locs cells slots Q (F0 m pc2 jls (st2.map (ktr b ad))) → W p l e R s m args below meth c H locs cells slots Q (F0 m pc jls (st.map (ktr b ad)))) : kGo r M pc ls st h pc2 ls st2 h := by
  refine ⟨kup_rf h, ?_⟩
  intro p l e R s m args below meth c H locs cells slots A D cA b L xs ad jls c0 s0 Q hSt hDy hc hs _ _ k
  exact f p l e R s m args below meth c H locs cells slots A D cA b L xs ad jls Q hSt hDy (k H locs jls ad cells slots (kDy_stk hDy (hv hDy.2.2.2.2.2.2.2 hDy.2.2.2.2.2.2.1)) (kext_rf _ _) hc hs)
theorem kv_int {st : List Value} {n : Nat} (x : Int32) (h : ∀ v ∈ st, kvl n v) : ∀ v ∈ Value.int x :: st, kvl n v := fun v hv => (List.mem_cons.mp hv).elim (fun e => by rw [e]; trivial) (h v)
theorem kv_long {st : List Value} {n : Nat} (x : Int64) (h : ∀ v ∈ st, kvl n v) : ∀ v ∈ Value.long x :: st, kvl n v := fun v hv => (List.mem_cons.mp hv).elim (fun e => by rw [e]; trivial) (h v)
theorem kv_tl {st : List Value} {n : Nat} {u : Value} (h : ∀ v ∈ u :: st, kvl n v) : ∀ v ∈ st, kvl n v := fun v hv => h v (List.mem_cons_of_mem _ hv)
theorem kv_hd {st : List Value} {n : Nat} {u : Value} (h : ∀ v ∈ u :: st, kvl n v) : kvl n u := h u List.mem_cons_self
theorem kv_cons {st : List Value} {n : Nat} {u : Value} (hu : kvl n u) (h : ∀ v ∈ st, kvl n v) : ∀ v ∈ u :: st, kvl n v := fun v hv => (List.mem_cons.mp hv).elim (fun e => by rw [e]; exact hu) (h v)
section KS
variable {r : Nat} {M : KM} {pc : Nat} {ls : List (Option Value)} {st : List Value} {h : KH}
theorem kj_at {b n : Nat} {ad : Nat → Nat} {ls : List (Option Value)} {jls : Array Slot} {i : Nat} {v : Value} (hl : lv_has jls n (kls b ad ls)) (hv : ls[i]? = some (some v)) : jls[i]? = some (.val (ktr b ad v)) := hl.2.2 (i, ktr b ad v) (kls_mem.mpr ⟨v, hv, rfl⟩)
theorem kg_iconst {n : Int} {v : Int32} (d : decode (kby M) pc = .ok (.iconst n, 1)) (hv : Int32.ofInt n = v) : kGo r M pc ls st h (pc + 1) ls (.int v :: st) h := by
  refine kGo_stk (fun h1 _ => kv_int _ h1) ?_
  intro p l e R s m args below meth c H locs cells slots A D cA b L xs ad jls Q S Dy k
  obtain ⟨hx, hb, -, hown, hts, -⟩ := S
  exact lv_iconst hx hb d hv k
theorem kg_bipush {n : Int} {v : Int32} (d : decode (kby M) pc = .ok (.bipush n, 2)) (hv : (Int8.ofInt n).toInt32 = v) : kGo r M pc ls st h (pc + 2) ls (.int v :: st) h := by
  refine kGo_stk (fun h1 _ => kv_int _ h1) ?_
  intro p l e R s m args below meth c H locs cells slots A D cA b L xs ad jls Q S Dy k
  obtain ⟨hx, hb, -, hown, hts, -⟩ := S
  exact lv_bipush hx hb d hv k
theorem kg_sipush {n : Int} {v : Int32} (d : decode (kby M) pc = .ok (.sipush n, 3)) (hv : (Int16.ofInt n).toInt32 = v) : kGo r M pc ls st h (pc + 3) ls (.int v :: st) h := by
  refine kGo_stk (fun h1 _ => kv_int _ h1) ?_
  intro p l e R s m args below meth c H locs cells slots A D cA b L xs ad jls Q S Dy k
  obtain ⟨hx, hb, -, hown, hts, -⟩ := S
  exact lv_sipush hx hb d hv k
theorem kg_lconst {n : Fin 2} {v : Int64} (d : decode (kby M) pc = .ok (.lconst n, 1)) (hv : Int64.ofNat n.val = v) : kGo r M pc ls st h (pc + 1) ls (.long v :: st) h := by
  refine kGo_stk (fun h1 _ => kv_long _ h1) ?_
  intro p l e R s m args below meth c H locs cells slots A D cA b L xs ad jls Q S Dy k
  obtain ⟨hx, hb, -, hown, hts, -⟩ := S
  exact lv_lconst hx hb d hv k
theorem kg_ldc {n : Nat} {v : Int32} (d : decode (kby M) pc = .ok (.ldc n, 2)) (hw : Cond.constant (kown M) n v ∈ kgw) : kGo r M pc ls st h (pc + 2) ls (.int v :: st) h := by
  refine kGo_stk (fun h1 _ => kv_int _ h1) ?_
  intro p l e R s m args below meth c H locs cells slots A D cA b L xs ad jls Q S Dy k
  obtain ⟨hx, hb, -, hown, hts, -⟩ := S
  exact lv_ldc hx hb hown (hts _ hw) d k
theorem kg_ldcw {n : Nat} {v : Int32} (d : decode (kby M) pc = .ok (.ldc_w n, 3)) (hw : Cond.constant (kown M) n v ∈ kgw) : kGo r M pc ls st h (pc + 3) ls (.int v :: st) h := by
  refine kGo_stk (fun h1 _ => kv_int _ h1) ?_
  intro p l e R s m args below meth c H locs cells slots A D cA b L xs ad jls Q S Dy k
  obtain ⟨hx, hb, -, hown, hts, -⟩ := S
  exact lv_ldcw hx hb hown (hts _ hw) d k
theorem kg_ldc2 {n : Nat} {v : Int64} (d : decode (kby M) pc = .ok (.ldc2_w n, 3)) (hw : Cond.constantLong (kown M) n v ∈ kgw) : kGo r M pc ls st h (pc + 3) ls (.long v :: st) h := by
  refine kGo_stk (fun h1 _ => kv_long _ h1) ?_
  intro p l e R s m args below meth c H locs cells slots A D cA b L xs ad jls Q S Dy k
  obtain ⟨hx, hb, -, hown, hts, -⟩ := S
  exact lv_ldc2 hx hb hown (hts _ hw) d k
theorem kg_iload {k : Nat} {x : Int32} (d : decode (kby M) pc = .ok (.iload k, 2)) (hl : ls[k]? = some (some (.int x))) : kGo r M pc ls st h (pc + 2) ls (.int x :: st) h := by
  refine kGo_stk (fun h1 _ => kv_int _ h1) ?_
  intro p l e R s m args below meth c H locs cells slots A D cA b L xs ad jls Q S Dy kk
  obtain ⟨hx, hb, -, hown, hts, -⟩ := S
  exact lv_iload hx hb d (kj_at Dy.2.2.2.2.1 hl) kk
theorem kg_iload_n {k : Fin 4} {x : Int32} (d : decode (kby M) pc = .ok (.iload_n k, 1)) (hl : ls[k.val]? = some (some (.int x))) : kGo r M pc ls st h (pc + 1) ls (.int x :: st) h := by
  refine kGo_stk (fun h1 _ => kv_int _ h1) ?_
  intro p l e R s m args below meth c H locs cells slots A D cA b L xs ad jls Q S Dy kk
  obtain ⟨hx, hb, -, hown, hts, -⟩ := S
  exact lv_iload_n hx hb d rfl (kj_at Dy.2.2.2.2.1 hl) kk
theorem kg_lload {k : Nat} {x : Int64} (d : decode (kby M) pc = .ok (.lload k, 2)) (hl : ls[k]? = some (some (.long x))) : kGo r M pc ls st h (pc + 2) ls (.long x :: st) h := by
  refine kGo_stk (fun h1 _ => kv_long _ h1) ?_
  intro p l e R s m args below meth c H locs cells slots A D cA b L xs ad jls Q S Dy kk
  obtain ⟨hx, hb, -, hown, hts, -⟩ := S
  exact lv_lload hx hb d (kj_at Dy.2.2.2.2.1 hl) kk
theorem kg_lload_n {k : Fin 4} {x : Int64} (d : decode (kby M) pc = .ok (.lload_n k, 1)) (hl : ls[k.val]? = some (some (.long x))) : kGo r M pc ls st h (pc + 1) ls (.long x :: st) h := by
  refine kGo_stk (fun h1 _ => kv_long _ h1) ?_
  intro p l e R s m args below meth c H locs cells slots A D cA b L xs ad jls Q S Dy kk
  obtain ⟨hx, hb, -, hown, hts, -⟩ := S
  exact lv_lload_n hx hb d rfl (kj_at Dy.2.2.2.2.1 hl) kk
theorem kg_aload {k : Nat} {v : Value} (d : decode (kby M) pc = .ok (.aload k, 2)) (hl : ls[k]? = some (some v)) (hv : (∃ a, v = .ref a) ∨ v = .null) : kGo r M pc ls st h (pc + 2) ls (v :: st) h := by
  refine kGo_stk (fun h1 h2 => kv_cons (h2 _ _ hl) h1) ?_
  intro p l e R s m args below meth c H locs cells slots A D cA b L xs ad jls Q S Dy kk
  obtain ⟨hx, hb, -, hown, hts, -⟩ := S
  have hj := kj_at Dy.2.2.2.2.1 hl
  rcases hv with ⟨a, rfl⟩ | rfl
  · exact lv_aload hx hb d hj kk
  · exact lv_aload hx hb d hj kk
theorem kg_aload_n {k : Fin 4} {v : Value} (d : decode (kby M) pc = .ok (.aload_n k, 1)) (hl : ls[k.val]? = some (some v)) (hv : (∃ a, v = .ref a) ∨ v = .null) : kGo r M pc ls st h (pc + 1) ls (v :: st) h := by
  refine kGo_stk (fun h1 h2 => kv_cons (h2 _ _ hl) h1) ?_
  intro p l e R s m args below meth c H locs cells slots A D cA b L xs ad jls Q S Dy kk
  obtain ⟨hx, hb, -, hown, hts, -⟩ := S
  have hj := kj_at Dy.2.2.2.2.1 hl
  rcases hv with ⟨a, rfl⟩ | rfl
  · exact lv_aload_n hx hb d rfl hj kk
  · exact lv_aload_n hx hb d rfl hj kk
theorem kg_iadd {x y : Int32} (d : decode (kby M) pc = .ok (.iadd, 1)) : kGo r M pc ls (.int y :: .int x :: st) h (pc + 1) ls (.int (x + y) :: st) h := by
  refine kGo_stk (fun h1 _ => kv_int _ (kv_tl (kv_tl h1))) ?_
  intro p l e R s m args below meth c H locs cells slots A D cA b L xs ad jls Q S Dy k
  obtain ⟨hx, hb, -, hown, hts, -⟩ := S
  exact lv_iadd hx hb d k
theorem kg_isub {x y : Int32} (d : decode (kby M) pc = .ok (.isub, 1)) : kGo r M pc ls (.int y :: .int x :: st) h (pc + 1) ls (.int (x - y) :: st) h := by
  refine kGo_stk (fun h1 _ => kv_int _ (kv_tl (kv_tl h1))) ?_
  intro p l e R s m args below meth c H locs cells slots A D cA b L xs ad jls Q S Dy k
  obtain ⟨hx, hb, -, hown, hts, -⟩ := S
  exact lv_isub hx hb d k
theorem kg_imul {x y : Int32} (d : decode (kby M) pc = .ok (.imul, 1)) : kGo r M pc ls (.int y :: .int x :: st) h (pc + 1) ls (.int (x * y) :: st) h := by
  refine kGo_stk (fun h1 _ => kv_int _ (kv_tl (kv_tl h1))) ?_
  intro p l e R s m args below meth c H locs cells slots A D cA b L xs ad jls Q S Dy k
  obtain ⟨hx, hb, -, hown, hts, -⟩ := S
  exact lv_imul hx hb d k
theorem kg_iand {x y : Int32} (d : decode (kby M) pc = .ok (.iand, 1)) : kGo r M pc ls (.int y :: .int x :: st) h (pc + 1) ls (.int (x &&& y) :: st) h := by
  refine kGo_stk (fun h1 _ => kv_int _ (kv_tl (kv_tl h1))) ?_
  intro p l e R s m args below meth c H locs cells slots A D cA b L xs ad jls Q S Dy k
  obtain ⟨hx, hb, -, hown, hts, -⟩ := S
  exact lv_iand hx hb d k
theorem kg_ior {x y : Int32} (d : decode (kby M) pc = .ok (.ior, 1)) : kGo r M pc ls (.int y :: .int x :: st) h (pc + 1) ls (.int (x ||| y) :: st) h := by
  refine kGo_stk (fun h1 _ => kv_int _ (kv_tl (kv_tl h1))) ?_
  intro p l e R s m args below meth c H locs cells slots A D cA b L xs ad jls Q S Dy k
  obtain ⟨hx, hb, -, hown, hts, -⟩ := S
  exact lv_ior hx hb d k
theorem kg_ixor {x y : Int32} (d : decode (kby M) pc = .ok (.ixor, 1)) : kGo r M pc ls (.int y :: .int x :: st) h (pc + 1) ls (.int (x ^^^ y) :: st) h := by
  refine kGo_stk (fun h1 _ => kv_int _ (kv_tl (kv_tl h1))) ?_
  intro p l e R s m args below meth c H locs cells slots A D cA b L xs ad jls Q S Dy k
  obtain ⟨hx, hb, -, hown, hts, -⟩ := S
  exact lv_ixor hx hb d k
theorem kg_ishl {x y : Int32} (d : decode (kby M) pc = .ok (.ishl, 1)) : kGo r M pc ls (.int y :: .int x :: st) h (pc + 1) ls (.int (x <<< (y &&& 31)) :: st) h := by
  refine kGo_stk (fun h1 _ => kv_int _ (kv_tl (kv_tl h1))) ?_
  intro p l e R s m args below meth c H locs cells slots A D cA b L xs ad jls Q S Dy k
  obtain ⟨hx, hb, -, hown, hts, -⟩ := S
  exact lv_ishl hx hb d k
theorem kg_ishr {x y : Int32} (d : decode (kby M) pc = .ok (.ishr, 1)) : kGo r M pc ls (.int y :: .int x :: st) h (pc + 1) ls (.int (x >>> (y &&& 31)) :: st) h := by
  refine kGo_stk (fun h1 _ => kv_int _ (kv_tl (kv_tl h1))) ?_
  intro p l e R s m args below meth c H locs cells slots A D cA b L xs ad jls Q S Dy k
  obtain ⟨hx, hb, -, hown, hts, -⟩ := S
  exact lv_ishr hx hb d k
theorem kg_iushr {x y : Int32} (d : decode (kby M) pc = .ok (.iushr, 1)) : kGo r M pc ls (.int y :: .int x :: st) h (pc + 1) ls (.int (x.toUInt32 >>> (y.toUInt32 &&& Int32.toUInt32 31)).toInt32 :: st) h := by
  refine kGo_stk (fun h1 _ => kv_int _ (kv_tl (kv_tl h1))) ?_
  intro p l e R s m args below meth c H locs cells slots A D cA b L xs ad jls Q S Dy k
  obtain ⟨hx, hb, -, hown, hts, -⟩ := S
  exact lv_iushr hx hb d rfl k
theorem kg_idiv {x y : Int32} (d : decode (kby M) pc = .ok (.idiv, 1)) (h0 : ¬ y = 0) : kGo r M pc ls (.int y :: .int x :: st) h (pc + 1) ls (.int (x / y) :: st) h := by
  refine kGo_stk (fun h1 _ => kv_int _ (kv_tl (kv_tl h1))) ?_
  intro p l e R s m args below meth c H locs cells slots A D cA b L xs ad jls Q S Dy k
  obtain ⟨hx, hb, -, hown, hts, -⟩ := S
  exact lv_idiv hx hb d h0 k
theorem kg_irem {x y : Int32} (d : decode (kby M) pc = .ok (.irem, 1)) (h0 : ¬ y = 0) : kGo r M pc ls (.int y :: .int x :: st) h (pc + 1) ls (.int (x - x / y * y) :: st) h := by
  refine kGo_stk (fun h1 _ => kv_int _ (kv_tl (kv_tl h1))) ?_
  intro p l e R s m args below meth c H locs cells slots A D cA b L xs ad jls Q S Dy k
  obtain ⟨hx, hb, -, hown, hts, -⟩ := S
  exact lv_irem hx hb d h0 k
theorem kg_ineg {x : Int32} (d : decode (kby M) pc = .ok (.ineg, 1)) : kGo r M pc ls (.int x :: st) h (pc + 1) ls (.int (-x) :: st) h := by
  refine kGo_stk (fun h1 _ => kv_int _ (kv_tl h1)) ?_
  intro p l e R s m args below meth c H locs cells slots A D cA b L xs ad jls Q S Dy k
  obtain ⟨hx, hb, -, hown, hts, -⟩ := S
  exact lv_ineg hx hb d k
theorem kg_ladd {x y : Int64} (d : decode (kby M) pc = .ok (.ladd, 1)) : kGo r M pc ls (.long y :: .long x :: st) h (pc + 1) ls (.long (x + y) :: st) h := by
  refine kGo_stk (fun h1 _ => kv_long _ (kv_tl (kv_tl h1))) ?_
  intro p l e R s m args below meth c H locs cells slots A D cA b L xs ad jls Q S Dy k
  obtain ⟨hx, hb, -, hown, hts, -⟩ := S
  exact lv_ladd hx hb d k
theorem kg_lsub {x y : Int64} (d : decode (kby M) pc = .ok (.lsub, 1)) : kGo r M pc ls (.long y :: .long x :: st) h (pc + 1) ls (.long (x - y) :: st) h := by
  refine kGo_stk (fun h1 _ => kv_long _ (kv_tl (kv_tl h1))) ?_
  intro p l e R s m args below meth c H locs cells slots A D cA b L xs ad jls Q S Dy k
  obtain ⟨hx, hb, -, hown, hts, -⟩ := S
  exact lv_lsub hx hb d k
theorem kg_lmul {x y : Int64} (d : decode (kby M) pc = .ok (.lmul, 1)) : kGo r M pc ls (.long y :: .long x :: st) h (pc + 1) ls (.long (x * y) :: st) h := by
  refine kGo_stk (fun h1 _ => kv_long _ (kv_tl (kv_tl h1))) ?_
  intro p l e R s m args below meth c H locs cells slots A D cA b L xs ad jls Q S Dy k
  obtain ⟨hx, hb, -, hown, hts, -⟩ := S
  exact lv_lmul hx hb d k
theorem kg_land {x y : Int64} (d : decode (kby M) pc = .ok (.land, 1)) : kGo r M pc ls (.long y :: .long x :: st) h (pc + 1) ls (.long (x &&& y) :: st) h := by
  refine kGo_stk (fun h1 _ => kv_long _ (kv_tl (kv_tl h1))) ?_
  intro p l e R s m args below meth c H locs cells slots A D cA b L xs ad jls Q S Dy k
  obtain ⟨hx, hb, -, hown, hts, -⟩ := S
  exact lv_land hx hb d k
theorem kg_lor {x y : Int64} (d : decode (kby M) pc = .ok (.lor, 1)) : kGo r M pc ls (.long y :: .long x :: st) h (pc + 1) ls (.long (x ||| y) :: st) h := by
  refine kGo_stk (fun h1 _ => kv_long _ (kv_tl (kv_tl h1))) ?_
  intro p l e R s m args below meth c H locs cells slots A D cA b L xs ad jls Q S Dy k
  obtain ⟨hx, hb, -, hown, hts, -⟩ := S
  exact lv_lor hx hb d k
theorem kg_lxor {x y : Int64} (d : decode (kby M) pc = .ok (.lxor, 1)) : kGo r M pc ls (.long y :: .long x :: st) h (pc + 1) ls (.long (x ^^^ y) :: st) h := by
  refine kGo_stk (fun h1 _ => kv_long _ (kv_tl (kv_tl h1))) ?_
  intro p l e R s m args below meth c H locs cells slots A D cA b L xs ad jls Q S Dy k
  obtain ⟨hx, hb, -, hown, hts, -⟩ := S
  exact lv_lxor hx hb d k
theorem kg_ldiv {x y : Int64} (d : decode (kby M) pc = .ok (.ldiv, 1)) (h0 : ¬ y = 0) : kGo r M pc ls (.long y :: .long x :: st) h (pc + 1) ls (.long (x / y) :: st) h := by
  refine kGo_stk (fun h1 _ => kv_long _ (kv_tl (kv_tl h1))) ?_
  intro p l e R s m args below meth c H locs cells slots A D cA b L xs ad jls Q S Dy k
  obtain ⟨hx, hb, -, hown, hts, -⟩ := S
  exact lv_ldiv hx hb d h0 k
theorem kg_lshl {x : Int64} {y : Int32} (d : decode (kby M) pc = .ok (.lshl, 1)) : kGo r M pc ls (.int y :: .long x :: st) h (pc + 1) ls (.long (x <<< (y.toInt64 &&& 63)) :: st) h := by
  refine kGo_stk (fun h1 _ => kv_long _ (kv_tl (kv_tl h1))) ?_
  intro p l e R s m args below meth c H locs cells slots A D cA b L xs ad jls Q S Dy k
  obtain ⟨hx, hb, -, hown, hts, -⟩ := S
  exact lv_lshl hx hb d rfl k
theorem kg_lshr {x : Int64} {y : Int32} (d : decode (kby M) pc = .ok (.lshr, 1)) : kGo r M pc ls (.int y :: .long x :: st) h (pc + 1) ls (.long (x >>> (y.toInt64 &&& 63)) :: st) h := by
  refine kGo_stk (fun h1 _ => kv_long _ (kv_tl (kv_tl h1))) ?_
  intro p l e R s m args below meth c H locs cells slots A D cA b L xs ad jls Q S Dy k
  obtain ⟨hx, hb, -, hown, hts, -⟩ := S
  exact lv_lshr hx hb d rfl k
theorem kg_lushr {x : Int64} {y : Int32} (d : decode (kby M) pc = .ok (.lushr, 1)) : kGo r M pc ls (.int y :: .long x :: st) h (pc + 1) ls (.long (x.toUInt64 >>> (y.toInt64.toUInt64 &&& Int64.toUInt64 63)).toInt64 :: st) h := by
  refine kGo_stk (fun h1 _ => kv_long _ (kv_tl (kv_tl h1))) ?_
  intro p l e R s m args below meth c H locs cells slots A D cA b L xs ad jls Q S Dy k
  obtain ⟨hx, hb, -, hown, hts, -⟩ := S
  exact lv_lushr hx hb d rfl k
theorem kg_i2l {x : Int32} (d : decode (kby M) pc = .ok (.i2l, 1)) : kGo r M pc ls (.int x :: st) h (pc + 1) ls (.long x.toInt64 :: st) h := by
  refine kGo_stk (fun h1 _ => kv_long _ (kv_tl h1)) ?_
  intro p l e R s m args below meth c H locs cells slots A D cA b L xs ad jls Q S Dy k
  obtain ⟨hx, hb, -, hown, hts, -⟩ := S
  exact lv_i2l hx hb d rfl k
theorem kg_l2i {x : Int64} (d : decode (kby M) pc = .ok (.l2i, 1)) : kGo r M pc ls (.long x :: st) h (pc + 1) ls (.int x.toInt32 :: st) h := by
  refine kGo_stk (fun h1 _ => kv_int _ (kv_tl h1)) ?_
  intro p l e R s m args below meth c H locs cells slots A D cA b L xs ad jls Q S Dy k
  obtain ⟨hx, hb, -, hown, hts, -⟩ := S
  exact lv_l2i hx hb d rfl k
theorem kg_i2b {x : Int32} (d : decode (kby M) pc = .ok (.i2b, 1)) : kGo r M pc ls (.int x :: st) h (pc + 1) ls (.int x.toInt8.toInt32 :: st) h := by
  refine kGo_stk (fun h1 _ => kv_int _ (kv_tl h1)) ?_
  intro p l e R s m args below meth c H locs cells slots A D cA b L xs ad jls Q S Dy k
  obtain ⟨hx, hb, -, hown, hts, -⟩ := S
  exact lv_i2b hx hb d rfl k
theorem kg_lcmp {x y : Int64} (d : decode (kby M) pc = .ok (.lcmp, 1)) : kGo r M pc ls (.long y :: .long x :: st) h (pc + 1) ls (.int (lg_cmp x y) :: st) h := by
  refine kGo_stk (fun h1 _ => kv_int _ (kv_tl (kv_tl h1))) ?_
  intro p l e R s m args below meth c H locs cells slots A D cA b L xs ad jls Q S Dy k
  obtain ⟨hx, hb, -, hown, hts, -⟩ := S
  exact W.lcmp hx hb d k
theorem ktr_cat {b : Nat} {ad : Nat → Nat} {v : Value} (hc : v.category = 1) : (ktr b ad v).category = 1 := by
  cases v <;> first | rfl | exact hc
theorem kg_dup {v : Value} (d : decode (kby M) pc = .ok (.dup, 1)) (hc : v.category = 1) : kGo r M pc ls (v :: st) h (pc + 1) ls (v :: v :: st) h := by
  refine kGo_stk (fun h1 _ => kv_cons (kv_hd h1) h1) ?_
  intro p l e R s m args below meth c H locs cells slots A D cA b L xs ad jls Q S Dy k
  obtain ⟨hx, hb, -, hown, hts, -⟩ := S
  exact lv_dup hx hb d (ktr_cat hc) k
theorem kg_pop {v : Value} (d : decode (kby M) pc = .ok (.pop, 1)) (hc : v.category = 1) : kGo r M pc ls (v :: st) h (pc + 1) ls st h := by
  refine kGo_stk (fun h1 _ => kv_tl h1) ?_
  intro p l e R s m args below meth c H locs cells slots A D cA b L xs ad jls Q S Dy k
  obtain ⟨hx, hb, -, hown, hts, -⟩ := S
  exact lv_pop hx hb d (ktr_cat hc) k
theorem kg_dup2 {v w : Value} (d : decode (kby M) pc = .ok (.dup2, 1)) (hc : v.category = 1) (hw : w.category = 1) : kGo r M pc ls (v :: w :: st) h (pc + 1) ls (v :: w :: v :: w :: st) h := by
  refine kGo_stk (fun h1 _ => kv_cons (kv_hd h1) (kv_cons (kv_hd (kv_tl h1)) h1)) ?_
  intro p l e R s m args below meth c H locs cells slots A D cA b L xs ad jls Q S Dy k
  obtain ⟨hx, hb, -, hown, hts, -⟩ := S
  exact lv_dup2_11 hx hb d (ktr_cat hc) (ktr_cat hw) k
theorem kg_goto {off : Int} {tgt : Nat} (d : decode (kby M) pc = .ok (.goto off, 3)) (ht : (pc : Int) + off = (tgt : Int)) : kGo r M pc ls st h tgt ls st h := by
  refine kGo_stk (fun h1 _ => h1) ?_
  intro p l e R s m args below meth c H locs cells slots A D cA b L xs ad jls Q S Dy k
  obtain ⟨hx, hb, -, hown, hts, -⟩ := S
  exact lv_goto hx hb d ht k
theorem kg_if_eq_t {x : Int32} {off : Int} {tgt : Nat} (d : decode (kby M) pc = .ok (.ifCond .eq off, 3)) (ht : (pc : Int) + off = (tgt : Int)) (hc : x = 0) : kGo r M pc ls (.int x :: st) h tgt ls st h := by
  refine kGo_stk (fun h1 _ => kv_tl h1) ?_
  intro p l e R s m args below meth c H locs cells slots A D cA b L xs ad jls Q S Dy k
  obtain ⟨hx, hb, -, hown, hts, -⟩ := S
  exact lv_if_eq hx hb d ht (fun _ => k) (fun q => absurd hc q)
theorem kg_icmp_eq_t {x y : Int32} {off : Int} {tgt : Nat} (d : decode (kby M) pc = .ok (.if_icmp .eq off, 3)) (ht : (pc : Int) + off = (tgt : Int)) (hc : x = y) : kGo r M pc ls (.int y :: .int x :: st) h tgt ls st h := by
  refine kGo_stk (fun h1 _ => kv_tl (kv_tl h1)) ?_
  intro p l e R s m args below meth c H locs cells slots A D cA b L xs ad jls Q S Dy k
  obtain ⟨hx, hb, -, hown, hts, -⟩ := S
  exact lv_icmp_eq hx hb d ht (fun _ => k) (fun q => absurd hc q)
theorem kg_if_eq_f {x : Int32} {off : Int} {tgt : Nat} (d : decode (kby M) pc = .ok (.ifCond .eq off, 3)) (ht : (pc : Int) + off = (tgt : Int)) (hc : ¬ (x = 0)) : kGo r M pc ls (.int x :: st) h (pc + 3) ls st h := by
  refine kGo_stk (fun h1 _ => kv_tl h1) ?_
  intro p l e R s m args below meth c H locs cells slots A D cA b L xs ad jls Q S Dy k
  obtain ⟨hx, hb, -, hown, hts, -⟩ := S
  exact lv_if_eq hx hb d ht (fun q => absurd q hc) (fun _ => k)
theorem kg_icmp_eq_f {x y : Int32} {off : Int} {tgt : Nat} (d : decode (kby M) pc = .ok (.if_icmp .eq off, 3)) (ht : (pc : Int) + off = (tgt : Int)) (hc : ¬ (x = y)) : kGo r M pc ls (.int y :: .int x :: st) h (pc + 3) ls st h := by
  refine kGo_stk (fun h1 _ => kv_tl (kv_tl h1)) ?_
  intro p l e R s m args below meth c H locs cells slots A D cA b L xs ad jls Q S Dy k
  obtain ⟨hx, hb, -, hown, hts, -⟩ := S
  exact lv_icmp_eq hx hb d ht (fun q => absurd q hc) (fun _ => k)
theorem kg_if_ne_t {x : Int32} {off : Int} {tgt : Nat} (d : decode (kby M) pc = .ok (.ifCond .ne off, 3)) (ht : (pc : Int) + off = (tgt : Int)) (hc : ¬ x = 0) : kGo r M pc ls (.int x :: st) h tgt ls st h := by
  refine kGo_stk (fun h1 _ => kv_tl h1) ?_
  intro p l e R s m args below meth c H locs cells slots A D cA b L xs ad jls Q S Dy k
  obtain ⟨hx, hb, -, hown, hts, -⟩ := S
  exact lv_if_ne hx hb d ht (fun q => k) (fun q => absurd q hc)
theorem kg_icmp_ne_t {x y : Int32} {off : Int} {tgt : Nat} (d : decode (kby M) pc = .ok (.if_icmp .ne off, 3)) (ht : (pc : Int) + off = (tgt : Int)) (hc : ¬ x = y) : kGo r M pc ls (.int y :: .int x :: st) h tgt ls st h := by
  refine kGo_stk (fun h1 _ => kv_tl (kv_tl h1)) ?_
  intro p l e R s m args below meth c H locs cells slots A D cA b L xs ad jls Q S Dy k
  obtain ⟨hx, hb, -, hown, hts, -⟩ := S
  exact lv_icmp_ne hx hb d ht (fun q => k) (fun q => absurd q hc)
theorem kg_if_ne_f {x : Int32} {off : Int} {tgt : Nat} (d : decode (kby M) pc = .ok (.ifCond .ne off, 3)) (ht : (pc : Int) + off = (tgt : Int)) (hc : ¬ (¬ x = 0)) : kGo r M pc ls (.int x :: st) h (pc + 3) ls st h := by
  refine kGo_stk (fun h1 _ => kv_tl h1) ?_
  intro p l e R s m args below meth c H locs cells slots A D cA b L xs ad jls Q S Dy k
  obtain ⟨hx, hb, -, hown, hts, -⟩ := S
  exact lv_if_ne hx hb d ht (fun q => absurd q hc) (fun q => k)
theorem kg_icmp_ne_f {x y : Int32} {off : Int} {tgt : Nat} (d : decode (kby M) pc = .ok (.if_icmp .ne off, 3)) (ht : (pc : Int) + off = (tgt : Int)) (hc : ¬ (¬ x = y)) : kGo r M pc ls (.int y :: .int x :: st) h (pc + 3) ls st h := by
  refine kGo_stk (fun h1 _ => kv_tl (kv_tl h1)) ?_
  intro p l e R s m args below meth c H locs cells slots A D cA b L xs ad jls Q S Dy k
  obtain ⟨hx, hb, -, hown, hts, -⟩ := S
  exact lv_icmp_ne hx hb d ht (fun q => absurd q hc) (fun q => k)
theorem kg_if_lt_t {x : Int32} {off : Int} {tgt : Nat} (d : decode (kby M) pc = .ok (.ifCond .lt off, 3)) (ht : (pc : Int) + off = (tgt : Int)) (hc : x < 0) : kGo r M pc ls (.int x :: st) h tgt ls st h := by
  refine kGo_stk (fun h1 _ => kv_tl h1) ?_
  intro p l e R s m args below meth c H locs cells slots A D cA b L xs ad jls Q S Dy k
  obtain ⟨hx, hb, -, hown, hts, -⟩ := S
  exact lv_if_lt hx hb d ht (fun _ => k) (fun q => absurd hc q)
theorem kg_icmp_lt_t {x y : Int32} {off : Int} {tgt : Nat} (d : decode (kby M) pc = .ok (.if_icmp .lt off, 3)) (ht : (pc : Int) + off = (tgt : Int)) (hc : x < y) : kGo r M pc ls (.int y :: .int x :: st) h tgt ls st h := by
  refine kGo_stk (fun h1 _ => kv_tl (kv_tl h1)) ?_
  intro p l e R s m args below meth c H locs cells slots A D cA b L xs ad jls Q S Dy k
  obtain ⟨hx, hb, -, hown, hts, -⟩ := S
  exact lv_icmp_lt hx hb d ht (fun _ => k) (fun q => absurd hc q)
theorem kg_if_lt_f {x : Int32} {off : Int} {tgt : Nat} (d : decode (kby M) pc = .ok (.ifCond .lt off, 3)) (ht : (pc : Int) + off = (tgt : Int)) (hc : ¬ (x < 0)) : kGo r M pc ls (.int x :: st) h (pc + 3) ls st h := by
  refine kGo_stk (fun h1 _ => kv_tl h1) ?_
  intro p l e R s m args below meth c H locs cells slots A D cA b L xs ad jls Q S Dy k
  obtain ⟨hx, hb, -, hown, hts, -⟩ := S
  exact lv_if_lt hx hb d ht (fun q => absurd q hc) (fun _ => k)
theorem kg_icmp_lt_f {x y : Int32} {off : Int} {tgt : Nat} (d : decode (kby M) pc = .ok (.if_icmp .lt off, 3)) (ht : (pc : Int) + off = (tgt : Int)) (hc : ¬ (x < y)) : kGo r M pc ls (.int y :: .int x :: st) h (pc + 3) ls st h := by
  refine kGo_stk (fun h1 _ => kv_tl (kv_tl h1)) ?_
  intro p l e R s m args below meth c H locs cells slots A D cA b L xs ad jls Q S Dy k
  obtain ⟨hx, hb, -, hown, hts, -⟩ := S
  exact lv_icmp_lt hx hb d ht (fun q => absurd q hc) (fun _ => k)
theorem kg_if_ge_t {x : Int32} {off : Int} {tgt : Nat} (d : decode (kby M) pc = .ok (.ifCond .ge off, 3)) (ht : (pc : Int) + off = (tgt : Int)) (hc : 0 ≤ x) : kGo r M pc ls (.int x :: st) h tgt ls st h := by
  refine kGo_stk (fun h1 _ => kv_tl h1) ?_
  intro p l e R s m args below meth c H locs cells slots A D cA b L xs ad jls Q S Dy k
  obtain ⟨hx, hb, -, hown, hts, -⟩ := S
  exact lv_if_ge hx hb d ht (fun _ => k) (fun q => absurd hc q)
theorem kg_icmp_ge_t {x y : Int32} {off : Int} {tgt : Nat} (d : decode (kby M) pc = .ok (.if_icmp .ge off, 3)) (ht : (pc : Int) + off = (tgt : Int)) (hc : y ≤ x) : kGo r M pc ls (.int y :: .int x :: st) h tgt ls st h := by
  refine kGo_stk (fun h1 _ => kv_tl (kv_tl h1)) ?_
  intro p l e R s m args below meth c H locs cells slots A D cA b L xs ad jls Q S Dy k
  obtain ⟨hx, hb, -, hown, hts, -⟩ := S
  exact lv_icmp_ge hx hb d ht (fun _ => k) (fun q => absurd hc q)
theorem kg_if_ge_f {x : Int32} {off : Int} {tgt : Nat} (d : decode (kby M) pc = .ok (.ifCond .ge off, 3)) (ht : (pc : Int) + off = (tgt : Int)) (hc : ¬ (0 ≤ x)) : kGo r M pc ls (.int x :: st) h (pc + 3) ls st h := by
  refine kGo_stk (fun h1 _ => kv_tl h1) ?_
  intro p l e R s m args below meth c H locs cells slots A D cA b L xs ad jls Q S Dy k
  obtain ⟨hx, hb, -, hown, hts, -⟩ := S
  exact lv_if_ge hx hb d ht (fun q => absurd q hc) (fun _ => k)
theorem kg_icmp_ge_f {x y : Int32} {off : Int} {tgt : Nat} (d : decode (kby M) pc = .ok (.if_icmp .ge off, 3)) (ht : (pc : Int) + off = (tgt : Int)) (hc : ¬ (y ≤ x)) : kGo r M pc ls (.int y :: .int x :: st) h (pc + 3) ls st h := by
  refine kGo_stk (fun h1 _ => kv_tl (kv_tl h1)) ?_
  intro p l e R s m args below meth c H locs cells slots A D cA b L xs ad jls Q S Dy k
  obtain ⟨hx, hb, -, hown, hts, -⟩ := S
  exact lv_icmp_ge hx hb d ht (fun q => absurd q hc) (fun _ => k)
theorem kg_if_gt_t {x : Int32} {off : Int} {tgt : Nat} (d : decode (kby M) pc = .ok (.ifCond .gt off, 3)) (ht : (pc : Int) + off = (tgt : Int)) (hc : 0 < x) : kGo r M pc ls (.int x :: st) h tgt ls st h := by
  refine kGo_stk (fun h1 _ => kv_tl h1) ?_
  intro p l e R s m args below meth c H locs cells slots A D cA b L xs ad jls Q S Dy k
  obtain ⟨hx, hb, -, hown, hts, -⟩ := S
  exact lv_if_gt hx hb d ht (fun _ => k) (fun q => absurd hc q)
theorem kg_icmp_gt_t {x y : Int32} {off : Int} {tgt : Nat} (d : decode (kby M) pc = .ok (.if_icmp .gt off, 3)) (ht : (pc : Int) + off = (tgt : Int)) (hc : y < x) : kGo r M pc ls (.int y :: .int x :: st) h tgt ls st h := by
  refine kGo_stk (fun h1 _ => kv_tl (kv_tl h1)) ?_
  intro p l e R s m args below meth c H locs cells slots A D cA b L xs ad jls Q S Dy k
  obtain ⟨hx, hb, -, hown, hts, -⟩ := S
  exact lv_icmp_gt hx hb d ht (fun _ => k) (fun q => absurd hc q)
theorem kg_if_gt_f {x : Int32} {off : Int} {tgt : Nat} (d : decode (kby M) pc = .ok (.ifCond .gt off, 3)) (ht : (pc : Int) + off = (tgt : Int)) (hc : ¬ (0 < x)) : kGo r M pc ls (.int x :: st) h (pc + 3) ls st h := by
  refine kGo_stk (fun h1 _ => kv_tl h1) ?_
  intro p l e R s m args below meth c H locs cells slots A D cA b L xs ad jls Q S Dy k
  obtain ⟨hx, hb, -, hown, hts, -⟩ := S
  exact lv_if_gt hx hb d ht (fun q => absurd q hc) (fun _ => k)
theorem kg_icmp_gt_f {x y : Int32} {off : Int} {tgt : Nat} (d : decode (kby M) pc = .ok (.if_icmp .gt off, 3)) (ht : (pc : Int) + off = (tgt : Int)) (hc : ¬ (y < x)) : kGo r M pc ls (.int y :: .int x :: st) h (pc + 3) ls st h := by
  refine kGo_stk (fun h1 _ => kv_tl (kv_tl h1)) ?_
  intro p l e R s m args below meth c H locs cells slots A D cA b L xs ad jls Q S Dy k
  obtain ⟨hx, hb, -, hown, hts, -⟩ := S
  exact lv_icmp_gt hx hb d ht (fun q => absurd q hc) (fun _ => k)
theorem kg_if_le_t {x : Int32} {off : Int} {tgt : Nat} (d : decode (kby M) pc = .ok (.ifCond .le off, 3)) (ht : (pc : Int) + off = (tgt : Int)) (hc : x ≤ 0) : kGo r M pc ls (.int x :: st) h tgt ls st h := by
  refine kGo_stk (fun h1 _ => kv_tl h1) ?_
  intro p l e R s m args below meth c H locs cells slots A D cA b L xs ad jls Q S Dy k
  obtain ⟨hx, hb, -, hown, hts, -⟩ := S
  exact lv_if_le hx hb d ht (fun _ => k) (fun q => absurd hc q)
theorem kg_icmp_le_t {x y : Int32} {off : Int} {tgt : Nat} (d : decode (kby M) pc = .ok (.if_icmp .le off, 3)) (ht : (pc : Int) + off = (tgt : Int)) (hc : x ≤ y) : kGo r M pc ls (.int y :: .int x :: st) h tgt ls st h := by
  refine kGo_stk (fun h1 _ => kv_tl (kv_tl h1)) ?_
  intro p l e R s m args below meth c H locs cells slots A D cA b L xs ad jls Q S Dy k
  obtain ⟨hx, hb, -, hown, hts, -⟩ := S
  exact lv_icmp_le hx hb d ht (fun _ => k) (fun q => absurd hc q)
theorem kg_if_le_f {x : Int32} {off : Int} {tgt : Nat} (d : decode (kby M) pc = .ok (.ifCond .le off, 3)) (ht : (pc : Int) + off = (tgt : Int)) (hc : ¬ (x ≤ 0)) : kGo r M pc ls (.int x :: st) h (pc + 3) ls st h := by
  refine kGo_stk (fun h1 _ => kv_tl h1) ?_
  intro p l e R s m args below meth c H locs cells slots A D cA b L xs ad jls Q S Dy k
  obtain ⟨hx, hb, -, hown, hts, -⟩ := S
  exact lv_if_le hx hb d ht (fun q => absurd q hc) (fun _ => k)
theorem kg_icmp_le_f {x y : Int32} {off : Int} {tgt : Nat} (d : decode (kby M) pc = .ok (.if_icmp .le off, 3)) (ht : (pc : Int) + off = (tgt : Int)) (hc : ¬ (x ≤ y)) : kGo r M pc ls (.int y :: .int x :: st) h (pc + 3) ls st h := by
  refine kGo_stk (fun h1 _ => kv_tl (kv_tl h1)) ?_
  intro p l e R s m args below meth c H locs cells slots A D cA b L xs ad jls Q S Dy k
  obtain ⟨hx, hb, -, hown, hts, -⟩ := S
  exact lv_icmp_le hx hb d ht (fun q => absurd q hc) (fun _ => k)

end KS

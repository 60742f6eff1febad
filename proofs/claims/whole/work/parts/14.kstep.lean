theorem kcnd_0 (c : ClassFile.Cond) (x : Int32) : kcnd c x 0 ↔ kcnd c x 0 := Iff.rfl
section KH2
variable {r : Nat} {M : KM} {Q : KO → KH → Prop} {go : KB → List (Option Value) → List Value → KH → Prop} {ls : List (Option Value)} {st : List Value} {h : KH}
theorem kRun_ex {pc : Nat} {o : KO} {h' : KH} (k : kEx r M pc ls st h o h') (q : Q o h') : kRun r M pc ls st h Q := ⟨o, h', k, q⟩
theorem kif_sp {pc tgt : Nat} {x : Int32} {off : Int} {c : ClassFile.Cond} (d : decode (kby M) pc = .ok (.ifCond c off, 3)) (ht : (pc : Int) + off = (tgt : Int)) (h1 : kcnd c x 0 → kRun r M tgt ls st h Q) (h2 : ¬ kcnd c x 0 → kRun r M (pc + 3) ls st h Q) : kRun r M pc ls (.int x :: st) h Q := by
  by_cases hc : kcnd c x 0
  · cases c
    · exact kRun_go (kg_if_eq_t d ht hc) (h1 hc)
    · exact kRun_go (kg_if_ne_t d ht hc) (h1 hc)
    · exact kRun_go (kg_if_lt_t d ht hc) (h1 hc)
    · exact kRun_go (kg_if_ge_t d ht hc) (h1 hc)
    · exact kRun_go (kg_if_gt_t d ht hc) (h1 hc)
    · exact kRun_go (kg_if_le_t d ht hc) (h1 hc)
  · cases c
    · exact kRun_go (kg_if_eq_f d ht hc) (h2 hc)
    · exact kRun_go (kg_if_ne_f d ht hc) (h2 hc)
    · exact kRun_go (kg_if_lt_f d ht hc) (h2 hc)
    · exact kRun_go (kg_if_ge_f d ht hc) (h2 hc)
    · exact kRun_go (kg_if_gt_f d ht hc) (h2 hc)
    · exact kRun_go (kg_if_le_f d ht hc) (h2 hc)
theorem kicmp_sp {pc tgt : Nat} {x y : Int32} {off : Int} {c : ClassFile.Cond} (d : decode (kby M) pc = .ok (.if_icmp c off, 3)) (ht : (pc : Int) + off = (tgt : Int)) (h1 : kcnd c x y → kRun r M tgt ls st h Q) (h2 : ¬ kcnd c x y → kRun r M (pc + 3) ls st h Q) : kRun r M pc ls (.int y :: .int x :: st) h Q := by
  by_cases hc : kcnd c x y
  · cases c
    · exact kRun_go (kg_icmp_eq_t d ht hc) (h1 hc)
    · exact kRun_go (kg_icmp_ne_t d ht hc) (h1 hc)
    · exact kRun_go (kg_icmp_lt_t d ht hc) (h1 hc)
    · exact kRun_go (kg_icmp_ge_t d ht hc) (h1 hc)
    · exact kRun_go (kg_icmp_gt_t d ht hc) (h1 hc)
    · exact kRun_go (kg_icmp_le_t d ht hc) (h1 hc)
  · cases c
    · exact kRun_go (kg_icmp_eq_f d ht hc) (h2 hc)
    · exact kRun_go (kg_icmp_ne_f d ht hc) (h2 hc)
    · exact kRun_go (kg_icmp_lt_f d ht hc) (h2 hc)
    · exact kRun_go (kg_icmp_ge_f d ht hc) (h2 hc)
    · exact kRun_go (kg_icmp_gt_f d ht hc) (h2 hc)
    · exact kRun_go (kg_icmp_le_f d ht hc) (h2 hc)
theorem ksw_sp {x : Int32} {J : Int → Prop} {d : Int} : ∀ (offs : List Int) (lo : Int), -1000 < lo → lo + offs.length < 1001 → ksw x lo offs J d → (∃ k f, k < offs.length ∧ offs[k]? = some f ∧ x.toInt = lo + k ∧ J f) ∨ ((x.toInt < lo ∨ lo + offs.length ≤ x.toInt) ∧ J d)
  | [], lo, _, _, H => Or.inr ⟨by rcases Int.lt_or_le x.toInt lo with q | q <;> simp <;> omega, H⟩
  | f :: offs, lo, h1, h2, H => by
    simp only [List.length_cons] at h2
    by_cases hx : x = Int32.ofInt lo
    · refine Or.inl ⟨0, f, by simp, rfl, ?_, H.1 hx⟩
      rw [hx, Int32.toInt_ofInt_of_le (by omega) (by omega)]
      simp
    · rcases ksw_sp offs (lo + 1) (by omega) (by omega) (H.2 hx) with ⟨k, g, a, b, c, e⟩ | ⟨a, b⟩
      · exact Or.inl ⟨k + 1, g, by simp; omega, by simpa using b, by omega, e⟩
      · refine Or.inr ⟨?_, b⟩
        have hne : x.toInt ≠ lo := fun q => hx (Int32.toInt.inj (by rw [q, Int32.toInt_ofInt_of_le (by omega) (by omega)]))
        simp only [List.length_cons]
        rcases a with a | a
        · left; omega
        · right; omega
end KH2
/-- constructors answer nothing -/
theorem kini_all : lw_tbl.all (fun w => match w with | .code y _ _ ret => !(y.name == "<init>") || ret.isNone | _ => true) = true := by decide +kernel
theorem kini_none (y : MethodName) (hy : y.name = "<init>") {bytes : ByteArray} {maxL : Nat} {ret : Option FieldType} (h : Cond.code y bytes maxL ret ∈ kgw) : ret = none := by
  have := List.all_eq_true.mp kini_all _ (List.mem_filter.mp h).1
  simp [hy] at this
  exact this
theorem kfty_all : (List.range 13).all (fun ci => (List.range (knf ci)).all (fun j => decide (ktagOf (kty ci j) ≠ 9))) = true := by decide +kernel
theorem kfty_ok {ci : Nat} (hc : ci < 13) : ∀ j, j < knf ci → ktagOf (kty ci j) ≠ 9 := fun j hj => of_decide_eq_true (List.all_eq_true.mp (List.all_eq_true.mp kfty_all ci (List.mem_range.mpr hc)) j (List.mem_range.mpr hj))
theorem karr_all : ([.int, .long, .byte, .boolean] : List FieldType).all (fun t => lw_tbl.contains (.arrayClass t)) = true := by decide +kernel
theorem karr_of {t : FieldType} (h : t ∈ ([.int, .long, .byte, .boolean] : List FieldType)) : Cond.arrayClass t ∈ kgw := List.mem_filter.mpr ⟨List.contains_iff_mem.mp (List.all_eq_true.mp karr_all t h), rfl⟩
theorem karr1 : Cond.arrayClass .int ∈ kgw := karr_of (by simp)
theorem karr2 : Cond.arrayClass .long ∈ kgw := karr_of (by simp)
theorem karr3 : Cond.arrayClass .byte ∈ kgw := karr_of (by simp)
theorem karr4 : Cond.arrayClass .boolean ∈ kgw := karr_of (by simp)
section KH3
variable {r : Nat} {M : KM} {Q : KO → KH → Prop} {go : KB → List (Option Value) → List Value → KH → Prop} {ls : List (Option Value)} {st : List Value} {h : KH}
/-- behind a call -/
theorem kret_ok {pc : Nat} {rest : KB} {stk : List Value} {v : Option Value} {h1 : KH} {X : String → KH → Prop} (G : ∀ {ls st h}, go rest ls st h → kRun r M (pc + 3) ls st h Q) (hru : kRunsTo r M pc ls stk st h (.inl v) h1) (hup : kup h h1) (hpl : ∀ w, (Sum.inl v : KO) = .inl (some w) → kpl1 w) (hm : ∀ w ∈ st, w ∈ stk) (HQ : kret go rest ls st X (.inl v) h1) : kRun r M pc ls stk h Q := by
  refine kRun_go (kGo_call hru hup hpl hm) (G ?_)
  cases v with
  | none => exact HQ
  | some w => exact HQ
theorem kx_ok {pc : Nat} {stk : List Value} {E : String} {h1 : KH} (hok : kok M = true) (hgo : kGoOk r M Q go) (hx : kokex M pc = true) (hru : kRunsTo r M pc ls stk st h (.inr E) h1) (hup : kup h h1) (HQ : kx r M Q go ls E h1) : kRun r M pc ls stk h Q := by
  unfold kx at HQ
  unfold kokex at hx
  split at hx
  · rename_i e1 e2
    rw [e2] at HQ
    exact kRun_ex (kEx_out hru hup e1) HQ
  · rename_i x E0 pc2 k e1 e2
    rw [e2] at HQ
    simp only [List.find?] at HQ
    by_cases hE : E0 = E
    · subst hE
      simp only [BEq.rfl] at HQ
      exact kRun_go (kg_catch [] [] (by rw [e1]; rfl) hru hup hx (fun z hz => (by cases hz))) (kto_sp hok hgo (kokh_spec hx).2.2.2.2.2.1 HQ)
    · rw [show (E0 == E) = false by simpa using hE] at HQ
      exact HQ.elim
  · rename_i x y E0 pc2 k F0 pc3 j e1 e2
    rw [e2] at HQ
    simp only [Bool.and_eq_true, decide_eq_true_eq] at hx
    obtain ⟨⟨⟨hx1, hx2⟩, rfl⟩, rfl⟩ := hx
    simp only [List.find?] at HQ
    by_cases hE : kIA = E
    · subst hE
      simp only [BEq.rfl] at HQ
      exact kRun_go (kg_catch [] [y] (by rw [e1]; rfl) hru hup hx1 (fun z hz => (by cases hz))) (kto_sp hok hgo (kokh_spec hx1).2.2.2.2.2.1 HQ)
    · rw [show (kIA == E) = false by simpa using hE] at HQ
      by_cases hE2 : kNE = E
      · subst hE2
        simp only [BEq.rfl] at HQ
        refine kRun_go (kg_catch [x] [] (by rw [e1]; rfl) hru hup hx2 (fun z hz => ?_)) (kto_sp hok hgo (kokh_spec hx2).2.2.2.2.2.1 HQ)
        cases (List.mem_singleton.mp hz : z = x)
        exact ⟨(kokh_spec hx1).2.1, kIA, (kokh_spec hx1).2.2.1, Or.inl ⟨rfl, rfl⟩⟩
      · rw [show (kNE == E) = false by simpa using hE2] at HQ
        exact HQ.elim
  · cases hx
theorem kinvV_sp {pc ix : Nat} {f : KF} {rest : KB} (hok : kok M = true) (hgo : kGoOk r M Q go) (G : ∀ {ls st h}, go rest ls st h → kRun r M (pc + 3) ls st h Q) (d : decode (kby M) pc = .ok (.invokevirtual ix, 3)) (hk : kokinv M pc f ix true false = true) (H : kinv r M Q go f rest ls st h) : kRun r M pc ls st h Q := by
  obtain ⟨kd, n, ci, v, w, y, ps⟩ := f
  simp only [kokinv, Bool.and_eq_true] at hk
  obtain ⟨hp, hk⟩ := hk
  split at hk
  · simp only [Bool.and_eq_true, decide_eq_true_eq] at hk
    obtain ⟨⟨⟨⟨⟨⟨⟨⟨-, q0⟩, q1⟩, q2⟩, q3⟩, q4⟩, q5⟩, q6⟩, q7⟩ := hk
    obtain ⟨as, s', h1, rfl, HH⟩ := kargs_sp (show kargs n [] st (fun as st => kpr st fun o st => kK h o = (0, ci) ∧ kcat st ≤ 8 ∧ 2 ≤ r ∧ kCalls (r - 1) y (.ref o :: as) h (kret go rest ls st (kx r M Q go ls))) from H)
    obtain ⟨a, s2, rfl, H1, H2, H3, o, h2, hup, hpl, ⟨bytes, maxL, ret, wc, hm, hM⟩, HQ⟩ := kpr_sp HH
    rw [List.append_nil] at hM
    have hru := kru_virtual (ls := ls) d hp q1 h1 q7 q2 H1 H2 H3 (kin_mem q3) (kin_mem q4) (kin_mem q5) (kin_mem q6) wc hm hM
    cases o with
    | inl v => exact kret_ok G hru hup hpl (fun w hw => List.mem_append_right _ (List.mem_cons_of_mem _ hw)) HQ
    | inr E => exact kx_ok hok hgo q0 hru hup HQ
  all_goals simp at hk
theorem kinvS_sp {pc ix : Nat} {f : KF} {rest : KB} (hok : kok M = true) (hgo : kGoOk r M Q go) (G : ∀ {ls st h}, go rest ls st h → kRun r M (pc + 3) ls st h Q) (d : decode (kby M) pc = .ok (.invokestatic ix, 3)) (hk : kokinv M pc f ix false true = true) (H : kinv r M Q go f rest ls st h) : kRun r M pc ls st h Q := by
  obtain ⟨kd, n, ci, v, w, y, ps⟩ := f
  simp only [kokinv, Bool.and_eq_true] at hk
  obtain ⟨hp, hk⟩ := hk
  split at hk
  · simp at hk
  · simp only [Bool.and_eq_true, decide_eq_true_eq] at hk
    obtain ⟨⟨⟨⟨⟨⟨-, p1⟩, p2⟩, q1⟩, q3⟩, q4⟩, q5⟩ := hk
    obtain ⟨as, s', h1, rfl, H2, H3, o, h2, hup, hpl, ⟨bytes, maxL, ret, wc, hm, hM⟩, HQ⟩ := kargs_sp (show kargs n [] st (fun as st => kcat st ≤ 8 ∧ 2 ≤ r ∧ kCalls (r - 1) y as h (kret go rest ls st (kx r M Q go ls))) from H)
    rw [List.append_nil] at hM
    have hru := kru_static (ls := ls) d hp q1 h1 H2 H3 (kin_mem q3) (kin_mem q4) (kin_mem q5) wc hm hM
    cases o with
    | inl v => exact kret_ok G hru hup hpl (fun w hw => List.mem_append_right _ hw) HQ
    | inr E =>
      refine kx_ok hok hgo ?_ hru hup HQ
      unfold kokex
      rw [p1, p2]
  · simp at hk
  · simp only [Bool.and_eq_true, decide_eq_true_eq] at hk
    obtain ⟨⟨⟨⟨-, q1⟩, q3⟩, q4⟩, q5⟩ := hk
    obtain ⟨as, s', h1, rfl, H2, H3, o, h2, hup, hpl, ⟨bytes, maxL, ret, wc, hm, hM⟩, HQ⟩ := kargs_sp (show kargs n [] st (fun as st => kcat st ≤ 8 ∧ 2 ≤ r ∧ kCalls (r - 1) y as h (kret go rest ls st (fun _ _ => False))) from H)
    rw [List.append_nil] at hM
    cases o with
    | inl v => exact kret_ok G (kru_staticN (ls := ls) d hp q1 h1 H2 H3 (kinE_mem q3) (kin_mem q4) (kin_mem q5) wc hm hM) hup hpl (fun w hw => List.mem_append_right _ hw) HQ
    | inr E => exact HQ.elim
  · simp at hk
  · simp at hk
  · simp only [Bool.and_eq_true, decide_eq_true_eq] at hk
    obtain ⟨⟨⟨⟨-, q1⟩, q3⟩, q4⟩, q5⟩ := hk
    obtain ⟨as, s', h1, rfl, H2, H3, o, h2, hup, hpl, ⟨bytes, maxL, ret, hh, wc, hm, hM⟩, HQ⟩ := kargs_sp (show kargs n [] st (fun as st => kcat st ≤ 8 ∧ 2 ≤ r ∧ kCallsW (r - 1) y as h (kret go rest ls st (fun _ _ => False))) from H)
    rw [List.append_nil] at hM
    cases o with
    | inl v => exact kret_ok G (kru_wrap (ls := ls) d hp q1 h1 H2 H3 (kin_mem q3) (kin_mem q4) (kin_mem q5) wc hm hM) hup hpl (fun w hw => List.mem_append_right _ hw) HQ
    | inr E => exact HQ.elim
  · simp only [Bool.and_eq_true, decide_eq_true_eq] at hk
    obtain ⟨⟨⟨⟨-, q1⟩, q3⟩, q4⟩, q5⟩ := hk
    obtain ⟨y9, s1, rfl, Ha⟩ := kpi_sp (show kpi st (fun y st => kpi st fun x st => kcat st ≤ 8 ∧ 2 ≤ r ∧ go rest ls (.int (if y < x then y else x) :: st) h) from H)
    obtain ⟨x9, s2, rfl, H1, H2, Hb⟩ := kpi_sp Ha
    exact kRun_go (kg_min d H1 H2 (kin_mem q1) (kin_mem q3) (kin_mem q4) (kin_mem q5)) (G Hb)
  · simp only [Bool.and_eq_true, decide_eq_true_eq] at hk
    obtain ⟨⟨⟨⟨-, q1⟩, q3⟩, q4⟩, q5⟩ := hk
    obtain ⟨y9, s1, rfl, Ha⟩ := kpl_sp (show kpl st (fun y st => kpl st fun x st => kcat st ≤ 8 ∧ 2 ≤ r ∧ go rest ls (.long (if y < x then y else x) :: st) h) from H)
    obtain ⟨x9, s2, rfl, H1, H2, Hb⟩ := kpl_sp Ha
    exact kRun_go (kg_minL d H1 H2 (kin_mem q1) (kin_mem q3) (kin_mem q4) (kin_mem q5)) (G Hb)
  · cases hk
theorem kinvI_sp {pc ix : Nat} {f : KF} {rest : KB} (hok : kok M = true) (hgo : kGoOk r M Q go) (G : ∀ {ls st h}, go rest ls st h → kRun r M (pc + 3) ls st h Q) (d : decode (kby M) pc = .ok (.invokespecial ix, 3)) (hk : kokinv M pc f ix false false = true) (H : kinv r M Q go f rest ls st h) : kRun r M pc ls st h Q := by
  obtain ⟨kd, n, ci, v, w, y, ps⟩ := f
  simp only [kokinv, Bool.and_eq_true] at hk
  obtain ⟨hp, hk⟩ := hk
  split at hk
  · simp at hk
  · simp at hk
  · simp only [Bool.and_eq_true, decide_eq_true_eq] at hk
    obtain ⟨⟨⟨⟨⟨-, q1⟩, q3⟩, q4⟩, q5⟩, q6⟩ := hk
    obtain ⟨as, s', h1, rfl, HH⟩ := kargs_sp (show kargs n [] st (fun as st => kpr st fun o st => kcat st ≤ 8 ∧ 2 ≤ r ∧ kCalls (r - 1) y (.ref o :: as) h (kret go rest ls st (fun _ _ => False))) from H)
    obtain ⟨a, s2, rfl, H2, H3, o, h2, hup, hpl, ⟨bytes, maxL, ret, wc, hm, hM⟩, HQ⟩ := kpr_sp HH
    rw [List.append_nil] at hM
    cases o with
    | inl v =>
      cases ret with
      | none => exact kret_ok G (kru_init (ls := ls) d hp q1 h1 q6 H2 H3 (kin_mem q3) (kin_mem q4) (kin_mem q5) wc hm hM) hup hpl (fun w hw => List.mem_append_right _ (List.mem_cons_of_mem _ hw)) HQ
      | some t => exact absurd (kini_none y q6 wc) (by simp)
    | inr E => exact HQ.elim
  · simp at hk
  · simp only [Bool.and_eq_true, decide_eq_true_eq] at hk
    obtain ⟨⟨⟨⟨⟨-, q1⟩, q3⟩, q4⟩, q5⟩, q6⟩ := hk
    obtain ⟨as, s', h1, rfl, HH⟩ := kargs_sp (show kargs n [] st (fun as st => kpr st fun o st => kcat st ≤ 8 ∧ 2 ≤ r ∧ kCalls (r - 1) y (.ref o :: as) h (kret go rest ls st (fun _ _ => False))) from H)
    obtain ⟨a, s2, rfl, H2, H3, o, h2, hup, hpl, ⟨bytes, maxL, ret, wc, hm, hM⟩, HQ⟩ := kpr_sp HH
    rw [List.append_nil] at hM
    cases o with
    | inl v =>
      cases ret with
      | none => exact kret_ok G (kru_initN (ls := ls) d hp q1 h1 q6 H2 H3 (kinE_mem q3) (kin_mem q4) (kin_mem q5) wc hm hM) hup hpl (fun w hw => List.mem_append_right _ (List.mem_cons_of_mem _ hw)) HQ
      | some t => exact absurd (kini_none y q6 wc) (by simp)
    | inr E => exact HQ.elim
  · simp only [Bool.and_eq_true, decide_eq_true_eq] at hk
    obtain ⟨⟨⟨-, q3⟩, q4⟩, q5⟩ := hk
    obtain ⟨a, s2, rfl, H1, H2, HH⟩ := kpr_sp (show kpr st (fun _ st => kcat st ≤ 8 ∧ 2 ≤ r ∧ go rest ls st h) from H)
    exact kRun_go (kg_objInit d H1 H2 (kin_mem q3) (kin_mem q4) (kin_mem q5)) (G HH)
  · simp at hk
  · simp at hk
  · simp at hk
  · cases hk
end KH3
section KH4
variable {r : Nat} {M : KM} {Q : KO → KH → Prop} {go : KB → List (Option Value) → List Value → KH → Prop} {ls : List (Option Value)} {st : List Value} {h : KH}
theorem kokI_d {pc len : Nat} {ins : Instr} {f : KF} (hn : ins ≠ .nop) (ha : ins ≠ .athrow) (hk : kokI M (pc, len, ins, f) = true) : decode (kby M) pc = .ok (ins, len) ∧ (kilen ins = 0 ∨ len = kilen ins) := by
  cases ins <;> first | exact absurd rfl hn | exact absurd rfl ha | (simp only [kokI, Bool.and_eq_true, decide_eq_true_eq] at hk; exact hk.1)
theorem kstep_sp (hok : kok M = true) (hgo : kGoOk r M Q go) (hne : ∀ ls st h, ¬ go [] ls st h) (i : KI) (rest : KB) (hb : kokB M (i :: rest) = true) (H : kstep r M Q go i rest ls st h) : kRun r M i.1 ls st h Q := by
  obtain ⟨pc, len, ins, f⟩ := i
  have hk : kokI M (pc, len, ins, f) = true := by
    simp only [kokB, Bool.and_eq_true] at hb
    exact hb.1.1
  have G : ∀ {ls st h}, go rest ls st h → kRun r M (pc + len) ls st h Q := fun g => kgo_sp hgo hb hne g
  have Tt : ∀ {tgt ls st h}, khead M tgt = true → kto r M Q go tgt ls st h → kRun r M tgt ls st h Q := fun a g => kto_sp hok hgo a g
  cases ins
  case nop =>
    exact Tt hk H
  case aload k =>
    simp only [kstep] at H
    obtain ⟨d, hl⟩ := kokI_d (by nofun) (by nofun) hk
    have hl := hl.resolve_left (by simp [kilen])
    simp only [kilen] at hl
    subst hl
    obtain ⟨v, h1, h2, h3⟩ := klda_sp H
    exact kRun_go (kg_aload d h1 h2) (G h3)
  case aload_n k =>
    simp only [kstep] at H
    obtain ⟨d, hl⟩ := kokI_d (by nofun) (by nofun) hk
    have hl := hl.resolve_left (by simp [kilen])
    simp only [kilen] at hl
    subst hl
    obtain ⟨v, h1, h2, h3⟩ := klda_sp H
    exact kRun_go (kg_aload_n d h1 h2) (G h3)
  case iload k =>
    obtain ⟨d, hl⟩ := kokI_d (by nofun) (by nofun) hk
    have hl := hl.resolve_left (by simp [kilen])
    simp only [kilen] at hl
    subst hl
    obtain ⟨x, h1, h3⟩ := kldi_sp H
    exact kRun_go (kg_iload d h1) (G h3)
  case iload_n k =>
    obtain ⟨d, hl⟩ := kokI_d (by nofun) (by nofun) hk
    have hl := hl.resolve_left (by simp [kilen])
    simp only [kilen] at hl
    subst hl
    obtain ⟨x, h1, h3⟩ := kldi_sp H
    exact kRun_go (kg_iload_n d h1) (G h3)
  case lload k =>
    obtain ⟨d, hl⟩ := kokI_d (by nofun) (by nofun) hk
    have hl := hl.resolve_left (by simp [kilen])
    simp only [kilen] at hl
    subst hl
    obtain ⟨x, h1, h3⟩ := kldl_sp H
    exact kRun_go (kg_lload d h1) (G h3)
  case lload_n k =>
    obtain ⟨d, hl⟩ := kokI_d (by nofun) (by nofun) hk
    have hl := hl.resolve_left (by simp [kilen])
    simp only [kilen] at hl
    subst hl
    obtain ⟨x, h1, h3⟩ := kldl_sp H
    exact kRun_go (kg_lload_n d h1) (G h3)
  case istore k =>
    have hx := hk
    simp only [kokI, Bool.and_eq_true, decide_eq_true_eq] at hx
    obtain ⟨d, hl⟩ := kokI_d (by nofun) (by nofun) hk
    have hl := hl.resolve_left (by simp [kilen])
    simp only [kilen] at hl
    subst hl
    obtain ⟨x, s', rfl, h3⟩ := kpi_sp H
    exact kRun_go (kg_istore d hx.2) (G h3)
  case istore_n k =>
    have hx := hk
    simp only [kokI, Bool.and_eq_true, decide_eq_true_eq] at hx
    obtain ⟨d, hl⟩ := kokI_d (by nofun) (by nofun) hk
    have hl := hl.resolve_left (by simp [kilen])
    simp only [kilen] at hl
    subst hl
    obtain ⟨x, s', rfl, h3⟩ := kpi_sp H
    exact kRun_go (kg_istore_n d hx.2) (G h3)
  case lstore k =>
    have hx := hk
    simp only [kokI, Bool.and_eq_true, decide_eq_true_eq] at hx
    obtain ⟨d, hl⟩ := kokI_d (by nofun) (by nofun) hk
    have hl := hl.resolve_left (by simp [kilen])
    simp only [kilen] at hl
    subst hl
    obtain ⟨x, s', rfl, h3⟩ := kpl_sp H
    exact kRun_go (kg_lstore d hx.2) (G h3)
  case lstore_n k =>
    have hx := hk
    simp only [kokI, Bool.and_eq_true, decide_eq_true_eq] at hx
    obtain ⟨d, hl⟩ := kokI_d (by nofun) (by nofun) hk
    have hl := hl.resolve_left (by simp [kilen])
    simp only [kilen] at hl
    subst hl
    obtain ⟨x, s', rfl, h3⟩ := kpl_sp H
    exact kRun_go (kg_lstore_n d hx.2) (G h3)
  case astore k =>
    simp only [kstep] at H
    have hx := hk
    simp only [kokI, Bool.and_eq_true, decide_eq_true_eq] at hx
    obtain ⟨d, hl⟩ := kokI_d (by nofun) (by nofun) hk
    have hl := hl.resolve_left (by simp [kilen])
    simp only [kilen] at hl
    subst hl
    obtain ⟨v, s', rfl, h2, h3⟩ := kpa_sp H
    exact kRun_go (kg_astore d hx.2 h2) (G h3)
  case astore_n k =>
    simp only [kstep] at H
    have hx := hk
    simp only [kokI, Bool.and_eq_true, decide_eq_true_eq] at hx
    obtain ⟨d, hl⟩ := kokI_d (by nofun) (by nofun) hk
    have hl := hl.resolve_left (by simp [kilen])
    simp only [kilen] at hl
    subst hl
    obtain ⟨v, s', rfl, h2, h3⟩ := kpa_sp H
    exact kRun_go (kg_astore_n d hx.2 h2) (G h3)
  case iconst k =>
    have hx := hk
    simp only [kokI, Bool.and_eq_true, decide_eq_true_eq] at hx
    obtain ⟨d, hl⟩ := kokI_d (by nofun) (by nofun) hk
    have hl := hl.resolve_left (by simp [kilen])
    simp only [kilen] at hl
    subst hl
    exact kRun_go (kg_iconst d hx.2) (G H)
  case bipush k =>
    have hx := hk
    simp only [kokI, Bool.and_eq_true, decide_eq_true_eq] at hx
    obtain ⟨d, hl⟩ := kokI_d (by nofun) (by nofun) hk
    have hl := hl.resolve_left (by simp [kilen])
    simp only [kilen] at hl
    subst hl
    exact kRun_go (kg_bipush d hx.2) (G H)
  case sipush k =>
    have hx := hk
    simp only [kokI, Bool.and_eq_true, decide_eq_true_eq] at hx
    obtain ⟨d, hl⟩ := kokI_d (by nofun) (by nofun) hk
    have hl := hl.resolve_left (by simp [kilen])
    simp only [kilen] at hl
    subst hl
    exact kRun_go (kg_sipush d hx.2) (G H)
  case lconst k =>
    have hx := hk
    simp only [kokI, Bool.and_eq_true, decide_eq_true_eq] at hx
    obtain ⟨d, hl⟩ := kokI_d (by nofun) (by nofun) hk
    have hl := hl.resolve_left (by simp [kilen])
    simp only [kilen] at hl
    subst hl
    exact kRun_go (kg_lconst d hx.2) (G H)
  case ldc k =>
    have hx := hk
    simp only [kokI, Bool.and_eq_true, decide_eq_true_eq] at hx
    obtain ⟨d, hl⟩ := kokI_d (by nofun) (by nofun) hk
    have hl := hl.resolve_left (by simp [kilen])
    simp only [kilen] at hl
    subst hl
    exact kRun_go (kg_ldc d (kin_mem hx.2)) (G H)
  case ldc_w k =>
    have hx := hk
    simp only [kokI, Bool.and_eq_true, decide_eq_true_eq] at hx
    obtain ⟨d, hl⟩ := kokI_d (by nofun) (by nofun) hk
    have hl := hl.resolve_left (by simp [kilen])
    simp only [kilen] at hl
    subst hl
    exact kRun_go (kg_ldcw d (kin_mem hx.2)) (G H)
  case ldc2_w k =>
    have hx := hk
    simp only [kokI, Bool.and_eq_true, decide_eq_true_eq] at hx
    obtain ⟨d, hl⟩ := kokI_d (by nofun) (by nofun) hk
    have hl := hl.resolve_left (by simp [kilen])
    simp only [kilen] at hl
    subst hl
    exact kRun_go (kg_ldc2 d (kin_mem hx.2)) (G H)
  case iinc k n =>
    have hx := hk
    simp only [kokI, Bool.and_eq_true, decide_eq_true_eq] at hx
    obtain ⟨d, hl⟩ := kokI_d (by nofun) (by nofun) hk
    have hl := hl.resolve_left (by simp [kilen])
    simp only [kilen] at hl
    subst hl
    obtain ⟨x, h1, h3⟩ := kldi_sp H
    exact kRun_go (kg_iinc d hx.2.1 h1 hx.2.2) (G h3)
  case iadd =>
    obtain ⟨d, hl⟩ := kokI_d (by nofun) (by nofun) hk
    have hl := hl.resolve_left (by simp [kilen])
    simp only [kilen] at hl
    subst hl
    obtain ⟨y, s1, rfl, H⟩ := kpi_sp H
    obtain ⟨x, s2, rfl, H⟩ := kpi_sp H
    exact kRun_go (kg_iadd d) (G H)
  case isub =>
    obtain ⟨d, hl⟩ := kokI_d (by nofun) (by nofun) hk
    have hl := hl.resolve_left (by simp [kilen])
    simp only [kilen] at hl
    subst hl
    obtain ⟨y, s1, rfl, H⟩ := kpi_sp H
    obtain ⟨x, s2, rfl, H⟩ := kpi_sp H
    exact kRun_go (kg_isub d) (G H)
  case imul =>
    obtain ⟨d, hl⟩ := kokI_d (by nofun) (by nofun) hk
    have hl := hl.resolve_left (by simp [kilen])
    simp only [kilen] at hl
    subst hl
    obtain ⟨y, s1, rfl, H⟩ := kpi_sp H
    obtain ⟨x, s2, rfl, H⟩ := kpi_sp H
    exact kRun_go (kg_imul d) (G H)
  case iand =>
    obtain ⟨d, hl⟩ := kokI_d (by nofun) (by nofun) hk
    have hl := hl.resolve_left (by simp [kilen])
    simp only [kilen] at hl
    subst hl
    obtain ⟨y, s1, rfl, H⟩ := kpi_sp H
    obtain ⟨x, s2, rfl, H⟩ := kpi_sp H
    exact kRun_go (kg_iand d) (G H)
  case ior =>
    obtain ⟨d, hl⟩ := kokI_d (by nofun) (by nofun) hk
    have hl := hl.resolve_left (by simp [kilen])
    simp only [kilen] at hl
    subst hl
    obtain ⟨y, s1, rfl, H⟩ := kpi_sp H
    obtain ⟨x, s2, rfl, H⟩ := kpi_sp H
    exact kRun_go (kg_ior d) (G H)
  case ixor =>
    obtain ⟨d, hl⟩ := kokI_d (by nofun) (by nofun) hk
    have hl := hl.resolve_left (by simp [kilen])
    simp only [kilen] at hl
    subst hl
    obtain ⟨y, s1, rfl, H⟩ := kpi_sp H
    obtain ⟨x, s2, rfl, H⟩ := kpi_sp H
    exact kRun_go (kg_ixor d) (G H)
  case ishl =>
    obtain ⟨d, hl⟩ := kokI_d (by nofun) (by nofun) hk
    have hl := hl.resolve_left (by simp [kilen])
    simp only [kilen] at hl
    subst hl
    obtain ⟨y, s1, rfl, H⟩ := kpi_sp H
    obtain ⟨x, s2, rfl, H⟩ := kpi_sp H
    exact kRun_go (kg_ishl d) (G H)
  case ishr =>
    obtain ⟨d, hl⟩ := kokI_d (by nofun) (by nofun) hk
    have hl := hl.resolve_left (by simp [kilen])
    simp only [kilen] at hl
    subst hl
    obtain ⟨y, s1, rfl, H⟩ := kpi_sp H
    obtain ⟨x, s2, rfl, H⟩ := kpi_sp H
    exact kRun_go (kg_ishr d) (G H)
  case iushr =>
    obtain ⟨d, hl⟩ := kokI_d (by nofun) (by nofun) hk
    have hl := hl.resolve_left (by simp [kilen])
    simp only [kilen] at hl
    subst hl
    obtain ⟨y, s1, rfl, H⟩ := kpi_sp H
    obtain ⟨x, s2, rfl, H⟩ := kpi_sp H
    exact kRun_go (kg_iushr d) (G H)
  case idiv =>
    obtain ⟨d, hl⟩ := kokI_d (by nofun) (by nofun) hk
    have hl := hl.resolve_left (by simp [kilen])
    simp only [kilen] at hl
    subst hl
    obtain ⟨y, s1, rfl, H⟩ := kpi_sp H
    obtain ⟨x, s2, rfl, h0, H⟩ := kpi_sp H
    exact kRun_go (kg_idiv d h0) (G H)
  case irem =>
    obtain ⟨d, hl⟩ := kokI_d (by nofun) (by nofun) hk
    have hl := hl.resolve_left (by simp [kilen])
    simp only [kilen] at hl
    subst hl
    obtain ⟨y, s1, rfl, H⟩ := kpi_sp H
    obtain ⟨x, s2, rfl, h0, H⟩ := kpi_sp H
    exact kRun_go (kg_irem d h0) (G H)
  case ineg =>
    obtain ⟨d, hl⟩ := kokI_d (by nofun) (by nofun) hk
    have hl := hl.resolve_left (by simp [kilen])
    simp only [kilen] at hl
    subst hl
    obtain ⟨x, s2, rfl, H⟩ := kpi_sp H
    exact kRun_go (kg_ineg d) (G H)
  case i2l =>
    obtain ⟨d, hl⟩ := kokI_d (by nofun) (by nofun) hk
    have hl := hl.resolve_left (by simp [kilen])
    simp only [kilen] at hl
    subst hl
    obtain ⟨x, s2, rfl, H⟩ := kpi_sp H
    exact kRun_go (kg_i2l d) (G H)
  case i2b =>
    obtain ⟨d, hl⟩ := kokI_d (by nofun) (by nofun) hk
    have hl := hl.resolve_left (by simp [kilen])
    simp only [kilen] at hl
    subst hl
    obtain ⟨x, s2, rfl, H⟩ := kpi_sp H
    exact kRun_go (kg_i2b d) (G H)
  case l2i =>
    obtain ⟨d, hl⟩ := kokI_d (by nofun) (by nofun) hk
    have hl := hl.resolve_left (by simp [kilen])
    simp only [kilen] at hl
    subst hl
    obtain ⟨x, s2, rfl, H⟩ := kpl_sp H
    exact kRun_go (kg_l2i d) (G H)
  case ladd =>
    obtain ⟨d, hl⟩ := kokI_d (by nofun) (by nofun) hk
    have hl := hl.resolve_left (by simp [kilen])
    simp only [kilen] at hl
    subst hl
    obtain ⟨y, s1, rfl, H⟩ := kpl_sp H
    obtain ⟨x, s2, rfl, H⟩ := kpl_sp H
    exact kRun_go (kg_ladd d) (G H)
  case lsub =>
    obtain ⟨d, hl⟩ := kokI_d (by nofun) (by nofun) hk
    have hl := hl.resolve_left (by simp [kilen])
    simp only [kilen] at hl
    subst hl
    obtain ⟨y, s1, rfl, H⟩ := kpl_sp H
    obtain ⟨x, s2, rfl, H⟩ := kpl_sp H
    exact kRun_go (kg_lsub d) (G H)
  case lmul =>
    obtain ⟨d, hl⟩ := kokI_d (by nofun) (by nofun) hk
    have hl := hl.resolve_left (by simp [kilen])
    simp only [kilen] at hl
    subst hl
    obtain ⟨y, s1, rfl, H⟩ := kpl_sp H
    obtain ⟨x, s2, rfl, H⟩ := kpl_sp H
    exact kRun_go (kg_lmul d) (G H)
  case land =>
    obtain ⟨d, hl⟩ := kokI_d (by nofun) (by nofun) hk
    have hl := hl.resolve_left (by simp [kilen])
    simp only [kilen] at hl
    subst hl
    obtain ⟨y, s1, rfl, H⟩ := kpl_sp H
    obtain ⟨x, s2, rfl, H⟩ := kpl_sp H
    exact kRun_go (kg_land d) (G H)
  case lor =>
    obtain ⟨d, hl⟩ := kokI_d (by nofun) (by nofun) hk
    have hl := hl.resolve_left (by simp [kilen])
    simp only [kilen] at hl
    subst hl
    obtain ⟨y, s1, rfl, H⟩ := kpl_sp H
    obtain ⟨x, s2, rfl, H⟩ := kpl_sp H
    exact kRun_go (kg_lor d) (G H)
  case lxor =>
    obtain ⟨d, hl⟩ := kokI_d (by nofun) (by nofun) hk
    have hl := hl.resolve_left (by simp [kilen])
    simp only [kilen] at hl
    subst hl
    obtain ⟨y, s1, rfl, H⟩ := kpl_sp H
    obtain ⟨x, s2, rfl, H⟩ := kpl_sp H
    exact kRun_go (kg_lxor d) (G H)
  case lcmp =>
    obtain ⟨d, hl⟩ := kokI_d (by nofun) (by nofun) hk
    have hl := hl.resolve_left (by simp [kilen])
    simp only [kilen] at hl
    subst hl
    obtain ⟨y, s1, rfl, H⟩ := kpl_sp H
    obtain ⟨x, s2, rfl, H⟩ := kpl_sp H
    exact kRun_go (kg_lcmp d) (G H)
  case ldiv =>
    obtain ⟨d, hl⟩ := kokI_d (by nofun) (by nofun) hk
    have hl := hl.resolve_left (by simp [kilen])
    simp only [kilen] at hl
    subst hl
    obtain ⟨y, s1, rfl, H⟩ := kpl_sp H
    obtain ⟨x, s2, rfl, h0, H⟩ := kpl_sp H
    exact kRun_go (kg_ldiv d h0) (G H)
  case lshl =>
    obtain ⟨d, hl⟩ := kokI_d (by nofun) (by nofun) hk
    have hl := hl.resolve_left (by simp [kilen])
    simp only [kilen] at hl
    subst hl
    obtain ⟨y, s1, rfl, H⟩ := kpi_sp H
    obtain ⟨x, s2, rfl, H⟩ := kpl_sp H
    exact kRun_go (kg_lshl d) (G H)
  case lshr =>
    obtain ⟨d, hl⟩ := kokI_d (by nofun) (by nofun) hk
    have hl := hl.resolve_left (by simp [kilen])
    simp only [kilen] at hl
    subst hl
    obtain ⟨y, s1, rfl, H⟩ := kpi_sp H
    obtain ⟨x, s2, rfl, H⟩ := kpl_sp H
    exact kRun_go (kg_lshr d) (G H)
  case lushr =>
    obtain ⟨d, hl⟩ := kokI_d (by nofun) (by nofun) hk
    have hl := hl.resolve_left (by simp [kilen])
    simp only [kilen] at hl
    subst hl
    obtain ⟨y, s1, rfl, H⟩ := kpi_sp H
    obtain ⟨x, s2, rfl, H⟩ := kpl_sp H
    exact kRun_go (kg_lushr d) (G H)
  case dup =>
    simp only [kstep] at H
    obtain ⟨d, hl⟩ := kokI_d (by nofun) (by nofun) hk
    have hl := hl.resolve_left (by simp [kilen])
    simp only [kilen] at hl
    subst hl
    obtain ⟨v, s1, rfl, h1, H⟩ := kpv_sp H
    exact kRun_go (kg_dup d h1) (G H)
  case pop =>
    simp only [kstep] at H
    obtain ⟨d, hl⟩ := kokI_d (by nofun) (by nofun) hk
    have hl := hl.resolve_left (by simp [kilen])
    simp only [kilen] at hl
    subst hl
    obtain ⟨v, s1, rfl, h1, H⟩ := kpv_sp H
    exact kRun_go (kg_pop d h1) (G H)
  case dup2 =>
    simp only [kstep] at H
    obtain ⟨d, hl⟩ := kokI_d (by nofun) (by nofun) hk
    have hl := hl.resolve_left (by simp [kilen])
    simp only [kilen] at hl
    subst hl
    obtain ⟨v, s1, rfl, h1, H⟩ := kpv_sp H
    obtain ⟨w, s2, rfl, h2, H⟩ := kpv_sp H
    exact kRun_go (kg_dup2 d h1 h2) (G H)
  case ifCond c off =>
    have hx := hk
    simp only [kokI, Bool.and_eq_true, decide_eq_true_eq] at hx
    obtain ⟨d, hl⟩ := kokI_d (by nofun) (by nofun) hk
    have hl := hl.resolve_left (by simp [kilen])
    simp only [kilen] at hl
    subst hl
    obtain ⟨x, s1, rfl, H⟩ := kpi_sp H
    exact kif_sp d hx.2.1 (fun q => Tt hx.2.2 (H.1 q)) (fun q => G (H.2 q))
  case if_icmp c off =>
    have hx := hk
    simp only [kokI, Bool.and_eq_true, decide_eq_true_eq] at hx
    obtain ⟨d, hl⟩ := kokI_d (by nofun) (by nofun) hk
    have hl := hl.resolve_left (by simp [kilen])
    simp only [kilen] at hl
    subst hl
    obtain ⟨y, s1, rfl, H⟩ := kpi_sp H
    obtain ⟨x, s2, rfl, H⟩ := kpi_sp H
    exact kicmp_sp d hx.2.1 (fun q => Tt hx.2.2 (H.1 q)) (fun q => G (H.2 q))
  case goto off =>
    have hx := hk
    simp only [kokI, Bool.and_eq_true, decide_eq_true_eq] at hx
    obtain ⟨d, hl⟩ := kokI_d (by nofun) (by nofun) hk
    have hl := hl.resolve_left (by simp [kilen])
    simp only [kilen] at hl
    subst hl
    exact kRun_go (kg_goto d hx.2.1) (Tt hx.2.2 H)
  case tableswitch d0 lo hi offs =>
    have hx := hk
    simp only [kokI, Bool.and_eq_true, decide_eq_true_eq] at hx
    obtain ⟨d, hl⟩ := kokI_d (by nofun) (by nofun) hk
    obtain ⟨x, s1, rfl, H⟩ := kpi_sp H
    obtain ⟨⟨⟨⟨⟨e1, e2⟩, e3⟩, e4⟩, e5⟩, e6⟩ := hx.2
    have hsz : offs.toList.length = offs.size := Array.length_toList
    rcases ksw_sp offs.toList lo e2 (by rw [hsz]; omega) H with ⟨k, g, a, b, c, e⟩ | ⟨a, b⟩
    · have hg := List.all_eq_true.mp e6 g (List.mem_of_getElem? b)
      simp only [Bool.and_eq_true, decide_eq_true_eq] at hg
      refine kRun_go (kg_tableIn d (by omega) (by omega) (off := g) ?_ (tgt := ((pc : Int) + g).toNat) (by have := hg.1; omega)) (Tt hg.2 e)
      rw [show (x.toInt - lo).toNat = k by omega]
      rw [← Array.getElem?_toList]; exact b
    · exact kRun_go (kg_tableOut d (by rw [hsz] at a; omega) (tgt := ((pc : Int) + d0).toNat) (by have := e4; omega)) (Tt e5 b)
  case getfield ix =>
    have hx := hk
    simp only [kokI, Bool.and_eq_true, decide_eq_true_eq] at hx
    simp only [kokfld, Bool.and_eq_true, decide_eq_true_eq] at hx
    obtain ⟨d, hl⟩ := kokI_d (by nofun) (by nofun) hk
    have hl := hl.resolve_left (by simp [kilen])
    simp only [kilen] at hl
    subst hl
    obtain ⟨⟨⟨e1, e2⟩, e3⟩, e4⟩ := hx.2
    obtain ⟨o, s1, rfl, H1, H⟩ := kpr_sp H
    have hw := kin_mem e4
    split at H
    · rename_i q; rw [q] at e3; exact kRun_go (kg_get d e1 e2 H1 hw (v := .int (kI h o f.2.1)) (fun b ad => by rw [e3]; rfl) (fun _ => trivial)) (G H)
    · rename_i q; rw [q] at e3; exact kRun_go (kg_get d e1 e2 H1 hw (v := .long (kL h o f.2.1)) (fun b ad => by rw [e3]; rfl) (fun _ => trivial)) (G H)
    · rename_i q; rw [q] at e3; exact kRun_go (kg_get d e1 e2 H1 hw (v := .ref (kR h o f.2.1)) (fun b ad => by rw [e3]; simp [kfv, krv, ktr, H.1]) (fun q => ⟨Nat.pos_of_ne_zero H.1, q f.2.1⟩)) (G H.2)
    · rename_i q; rw [q] at e3; exact kRun_go (kg_get d e1 e2 H1 hw (v := .int (kI h o f.2.1)) (fun b ad => by rw [e3]; rfl) (fun _ => trivial)) (G H)
    · exact H.elim
  case putfield ix =>
    have hx := hk
    simp only [kokI, Bool.and_eq_true, decide_eq_true_eq] at hx
    simp only [kokfld, Bool.and_eq_true, decide_eq_true_eq] at hx
    obtain ⟨d, hl⟩ := kokI_d (by nofun) (by nofun) hk
    have hl := hl.resolve_left (by simp [kilen])
    simp only [kilen] at hl
    subst hl
    obtain ⟨⟨⟨⟨e1, e2⟩, e3⟩, e4⟩, e5⟩ := hx.2
    have hw := kin_mem e4
    unfold kstep at H
    simp only at H
    unfold kputf at H
    split at H
    · rename_i q; rw [q] at e3; obtain ⟨x, s1, rfl, H⟩ := kpi_sp H; obtain ⟨o, s2, rfl, H1, H⟩ := kpr_sp H; exact kRun_go (kg_putI d e1 e2 (Or.inl e3) H1 hw e5) (G H)
    · rename_i q; rw [q] at e3; obtain ⟨x, s1, rfl, H⟩ := kpl_sp H; obtain ⟨o, s2, rfl, H1, H⟩ := kpr_sp H; exact kRun_go (kg_putL d e1 e2 e3 H1 hw e5) (G H)
    · rename_i q; rw [q] at e3; obtain ⟨x, s1, rfl, Ha⟩ := kpr_sp H; obtain ⟨o, s2, rfl, H0, H1, Hb⟩ := kpr_sp Ha; exact kRun_go (kg_putR d e1 e2 e3 H0 H1 hw e5) (G Hb)
    · rename_i q; rw [q] at e3; obtain ⟨x, s1, rfl, H⟩ := kpi_sp H; obtain ⟨o, s2, rfl, H0, H1, H⟩ := kpr_sp H; exact kRun_go (kg_putI d e1 e2 (Or.inr ⟨e3, H0⟩) H1 hw e5) (G H)
    · exact H.elim
  case iaload =>
    simp only [kstep] at H
    obtain ⟨d, hl⟩ := kokI_d (by nofun) (by nofun) hk
    have hl := hl.resolve_left (by simp [kilen])
    simp only [kilen] at hl
    subst hl
    obtain ⟨j, s1, rfl, Ha⟩ := kpi_sp H
    obtain ⟨v, s2, rfl, h2, Hb⟩ := kpa_sp Ha
    rcases h2 with ⟨a, rfl⟩ | rfl
    · exact kRun_go (kg_iald d Hb.1 Hb.2.1) (G Hb.2.2)
    · exact kRun_go (kg_sld d Hb.1) (G Hb.2)
  case laload =>
    obtain ⟨d, hl⟩ := kokI_d (by nofun) (by nofun) hk
    have hl := hl.resolve_left (by simp [kilen])
    simp only [kilen] at hl
    subst hl
    obtain ⟨j, s1, rfl, H⟩ := kpi_sp H
    obtain ⟨a, s2, rfl, H⟩ := kpr_sp H
    exact kRun_go (kg_lald d H.1 H.2.1) (G H.2.2)
  case baload =>
    obtain ⟨d, hl⟩ := kokI_d (by nofun) (by nofun) hk
    have hl := hl.resolve_left (by simp [kilen])
    simp only [kilen] at hl
    subst hl
    obtain ⟨j, s1, rfl, H⟩ := kpi_sp H
    obtain ⟨a, s2, rfl, H⟩ := kpr_sp H
    exact kRun_go (kg_bald d H.1 H.2.1) (G H.2.2)
  case iastore =>
    obtain ⟨d, hl⟩ := kokI_d (by nofun) (by nofun) hk
    have hl := hl.resolve_left (by simp [kilen])
    simp only [kilen] at hl
    subst hl
    obtain ⟨x, s0, rfl, H⟩ := kpi_sp H
    obtain ⟨j, s1, rfl, H⟩ := kpi_sp H
    obtain ⟨a, s2, rfl, H⟩ := kpr_sp H
    exact kRun_go (kg_iast d H.1 H.2.1) (G H.2.2)
  case lastore =>
    obtain ⟨d, hl⟩ := kokI_d (by nofun) (by nofun) hk
    have hl := hl.resolve_left (by simp [kilen])
    simp only [kilen] at hl
    subst hl
    obtain ⟨x, s0, rfl, H⟩ := kpl_sp H
    obtain ⟨j, s1, rfl, H⟩ := kpi_sp H
    obtain ⟨a, s2, rfl, H⟩ := kpr_sp H
    exact kRun_go (kg_last d H.1 H.2.1) (G H.2.2)
  case bastore =>
    obtain ⟨d, hl⟩ := kokI_d (by nofun) (by nofun) hk
    have hl := hl.resolve_left (by simp [kilen])
    simp only [kilen] at hl
    subst hl
    obtain ⟨x, s0, rfl, H⟩ := kpi_sp H
    obtain ⟨j, s1, rfl, H⟩ := kpi_sp H
    obtain ⟨a, s2, rfl, H1, H⟩ := kpr_sp H
    rcases H with ⟨H0, H⟩ | ⟨H0, H⟩
    · exact kRun_go (kg_bast d H0 H1) (G H)
    · exact kRun_go (kg_zast d H0 H1) (G H)
  case arraylength =>
    simp only [kstep] at H
    obtain ⟨d, hl⟩ := kokI_d (by nofun) (by nofun) hk
    have hl := hl.resolve_left (by simp [kilen])
    simp only [kilen] at hl
    subst hl
    obtain ⟨v, s2, rfl, h2, H⟩ := kpa_sp H
    rcases h2 with ⟨a, rfl⟩ | rfl
    · exact kRun_go (kg_alen d H.1) (G H.2)
    · exact kRun_go (kg_slen d) (G H)
  case new ix =>
    have hx := hk
    simp only [kokI, Bool.and_eq_true, decide_eq_true_eq] at hx
    obtain ⟨d, hl⟩ := kokI_d (by nofun) (by nofun) hk
    have hl := hl.resolve_left (by simp [kilen])
    simp only [kilen] at hl
    subst hl
    obtain ⟨⟨⟨⟨e1, e2⟩, e3⟩, e4⟩, e5⟩ := hx.2
    exact kRun_go (kg_new d e1 e2 (kin_mem e3) (kin_mem e4) (kin_mem e5) (kfty_ok e1)) (G H)
  case newarray t =>
    have hx := hk
    simp only [kokI, Bool.and_eq_true, decide_eq_true_eq] at hx
    obtain ⟨d, hl⟩ := kokI_d (by nofun) (by nofun) hk
    have hl := hl.resolve_left (by simp [kilen])
    simp only [kilen] at hl
    subst hl
    obtain ⟨⟨e1, e2⟩, e3⟩ := hx.2
    obtain ⟨x, s1, rfl, H1, H2, Hn⟩ := kpi_sp H
    have Hm : go rest ls (.ref (kN h + 1) :: s1) (knew h (f.1, x.toNatClampNeg) x.toNatClampNeg) := Hn
    rcases (show f.1 = 1 ∨ f.1 = 2 ∨ f.1 = 3 ∨ f.1 = 4 by omega) with q | q | q | q
    · rw [q] at e1 Hm; simp only [kntag] at e1; subst e1; exact kRun_go (kg_newa1 d karr1 H1 H2) (G Hm)
    · rw [q] at e1 Hm; simp only [kntag] at e1; subst e1; exact kRun_go (kg_newa2 d karr2 H1 H2) (G Hm)
    · rw [q] at e1 Hm; simp only [kntag] at e1; subst e1; exact kRun_go (kg_newa3 d karr3 H1 H2) (G Hm)
    · rw [q] at e1 Hm; simp only [kntag] at e1; subst e1; exact kRun_go (kg_newa4 d karr4 H1 H2) (G Hm)
  case ireturn =>
    have hx := hk
    simp only [kokI, Bool.and_eq_true, decide_eq_true_eq] at hx
    obtain ⟨d, hl⟩ := kokI_d (by nofun) (by nofun) hk
    have hl := hl.resolve_left (by simp [kilen])
    simp only [kilen] at hl
    subst hl
    unfold kstep at H
    simp only at H
    split at H
    · refine kRun_ex (ke_iret d ?_) H.2
      simp only [Bool.or_eq_true, Bool.and_eq_true, decide_eq_true_eq] at hx
      rcases hx.2 with q | q
      · exact Or.inl q.1
      · exact Or.inr ⟨q.1, H.1 q.2⟩
    · exact H.elim
  case lreturn =>
    have hx := hk
    simp only [kokI, Bool.and_eq_true, decide_eq_true_eq] at hx
    obtain ⟨d, hl⟩ := kokI_d (by nofun) (by nofun) hk
    have hl := hl.resolve_left (by simp [kilen])
    simp only [kilen] at hl
    subst hl
    unfold kstep at H
    simp only at H
    split at H
    · exact kRun_ex (ke_lret d hx.2) H
    · exact H.elim
  case return_ =>
    have hx := hk
    simp only [kokI, Bool.and_eq_true, decide_eq_true_eq] at hx
    obtain ⟨d, hl⟩ := kokI_d (by nofun) (by nofun) hk
    have hl := hl.resolve_left (by simp [kilen])
    simp only [kilen] at hl
    subst hl
    unfold kstep at H
    simp only at H
    split at H
    · exact kRun_ex (ke_vret d hx.2) H
    · exact H.elim
  case athrow =>
    exact kRun_ex (kokthr_ex hk H.2.1 H.1) H.2.2
  case invokevirtual ix =>
    have hx := hk
    simp only [kokI, Bool.and_eq_true, decide_eq_true_eq] at hx
    obtain ⟨d, hl⟩ := kokI_d (by nofun) (by nofun) hk
    have hl := hl.resolve_left (by simp [kilen])
    simp only [kilen] at hl
    subst hl
    exact kinvV_sp hok hgo (fun g => G g) d hx.2 H
  case invokestatic ix =>
    have hx := hk
    simp only [kokI, Bool.and_eq_true, decide_eq_true_eq] at hx
    obtain ⟨d, hl⟩ := kokI_d (by nofun) (by nofun) hk
    have hl := hl.resolve_left (by simp [kilen])
    simp only [kilen] at hl
    subst hl
    exact kinvS_sp hok hgo (fun g => G g) d hx.2 H
  case invokespecial ix =>
    have hx := hk
    simp only [kokI, Bool.and_eq_true, decide_eq_true_eq] at hx
    obtain ⟨d, hl⟩ := kokI_d (by nofun) (by nofun) hk
    have hl := hl.resolve_left (by simp [kilen])
    simp only [kilen] at hl
    subst hl
    exact kinvI_sp hok hgo (fun g => G g) d hx.2 H
  all_goals exact H.elim
theorem kwp_nil (n : Nat) (ls : List (Option Value)) (st : List Value) (h : KH) : ¬ kwp r M Q n [] ls st h := by
  cases n <;> exact id
theorem kwp_ok (hok : kok M = true) : ∀ n, kGoOk r M Q (kwp r M Q n)
  | 0 => fun i rest ls st h _ H => H
  | n + 1 => fun i rest ls st h hb H => kstep_sp hok (kwp_ok hok n) (kwp_nil n) i rest hb H
/-- THE RULE: from a place whose block is known, its stretch's weakest start is enough -/
theorem kwp_run (hok : kok M = true) (n : Nat) {pc : Nat} {q : Bool} {i : KI} {rest : KB} {ls : List (Option Value)} {st : List Value} {h : KH} (hf : (kbs M).find? (fun q => q.1 == pc) = some (pc, q, i :: rest)) (hi : i.1 = pc) (H : kwp r M Q n (i :: rest) ls st h) : kRun r M pc ls st h Q := by
  have hb : kokB M (i :: rest) = true := by
    simp only [kok, Bool.and_eq_true, decide_eq_true_eq] at hok
    exact List.all_eq_true.mp hok.1.1.2 _ (List.mem_of_find?_eq_some hf)
  have := kwp_ok hok n i rest ls st h hb H
  rwa [hi] at this
end KH4

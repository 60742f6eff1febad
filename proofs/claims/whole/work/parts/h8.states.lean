/-! the law's calls: what they leave, what they answer -/
def F0L (h h' : KH) : Prop := (∀ x, x = 0 ∨ (66 ≤ x ∧ x ≤ 104) → kI h' x = kI h x ∧ kL h' x = kL h x) ∧ kK h' 0 = kK h 0
def FL (h h' : KH) : Prop := F0L h h' ∧ kC h' ≤ kC h + 4 ∧ kS h' + 21840 * rho (NNs h) ≤ kS h + 21840 * rho (NNs h') + 6000
def okL (res : RS) (h : KH) (k : Int32) : Prop := match res with
  | .inl v => k = nI 0 ∧ kL h 105 0 = v.toInt64
  | .inr c => k = nI c
/-- an answer that is a boolean -/
def okLb (res : RS) (h : KH) (k : Int32) : Prop := match res with
  | .inl v => k = nI 0 ∧ kL h 105 0 = if v = nI 0 then lN 0 else lN 1
  | .inr c => k = nI c
def rok (res : RS) : Prop := ∀ c, res = .inr c → c = 1 ∨ c = 2
def rok1 (res : RS) : Prop := ∀ c, res = .inr c → c = 1
theorem rok_1 {res : RS} (h : rok1 res) : rok res := fun c e => Or.inl (h c e)
/-- a call of the law's helper and the reference's -/
def OPc (r : Nat) (h : KH) (S : SS) (okq : RS → KH → Int32 → Prop) (res : RS) (S' : SS) (yc : MethodName) (ac : List Value) (ym : MethodName) (am : List Value) : Prop :=
  (∀ Q, (∀ h' k, CJ h' S' → WJ S' → FL h h' → okq res h' k → Q (.inl (some (.int k))) h') → kCallsW r yc ac h Q) ∧ ∀ h1, RJ h1 S → kW h1 → ∀ Q, (∀ h' v, RJ h' S' → FRf h1 h' → okM res h' v → Q (.inl (some (.int v))) h') → kCalls r ym am h1 Q
/-- the same, called directly: never anything thrown -/
def OPd (r : Nat) (h : KH) (S : SS) (v : Int32) (S' : SS) (yc : MethodName) (ac : List Value) (ym : MethodName) (am : List Value) : Prop :=
  (∀ Q, (∀ h', CJ h' S' → WJ S' → FL h h' → Q (.inl (some (.int v))) h') → kCalls r yc ac h Q) ∧ ∀ h1, RJ h1 S → kW h1 → ∀ Q, (∀ h', RJ h' S' → FRf h1 h' → Q (.inl (some (.int v))) h') → kCalls r ym am h1 Q
section SX
variable {r : Nat} {h h' : KH} {S : SS}
theorem CJ_W (K : CJ h S) : kW h := by
  obtain ⟨_, _, _, _, _, _, _, _, k⟩ := K
  exact k.1.1
theorem FL_of (f : FG h h') : FL h h' := ⟨⟨fun x hx => f.1.1 x (by omega), f.1.2.1⟩, f.2⟩
theorem FL_out {v : Int64} (f : FG h h') : FL h (sL h' 105 0 v) := by
  refine ⟨⟨fun x hx => ⟨(f.1.1 x (by omega)).1, ?_⟩, f.1.2.1⟩, f.2⟩
  rw [kL_sL, if_neg (by omega)]; exact (f.1.1 x (by omega)).2
theorem CJ_out {v : Int64} (K : CJ h S) : CJ (sL h 105 0 v) S := CI_ref (S := []) (T' := [105]) (Fr_sL (Fr_rf _ _ _) (by simp)) (by simp) (by simp) K
theorem RJ_FL (f : F0L h h') (K : RJ h S) : RJ h' S := RI_eq (fun x h1 h2 => f.1 x (by omega)) K
theorem CJ_frf (f : FRf h h') (K : CJ h S) : CJ h' S := CI_frf f K
theorem FRf_eq (f : FRf h h') : h'.2.2 = h.2.2 ∧ kI h' 0 = kI h 0 ∧ kL h' 105 = kL h 105 := by
  obtain ⟨S1, T1, f, h1, h2⟩ := f
  exact ⟨f.1, f.2.1 0 (fun q => by have := h1 0 q; omega), f.2.2 105 (fun q => by have := h2 105 q; omega)⟩
theorem rho_4 (N : Nat) : rho N ≤ 4 := by
  unfold rho
  repeat' split
  all_goals omega
end SX
section WX
variable {t : List Nat} {B : GB} {nn : Nat} {P : List (List Nat)} {C : CL} {A : List (List Nat)} {ls : LSn} {T T' : TN} {sd : List Nat} {x : Int32} {lk wr : Nat}
theorem W_tp (W : WFA t B nn P C A ls T sd) : WFA (tpX t x) B nn P C A ls T sd := by
  refine ⟨W.1, ?_, W.2.2⟩
  unfold tpX
  split
  · exact ⟨by simp, fun i => by simp⟩
  · exact W.2.1
theorem W_nil (W : WFA t B nn P C A ls T sd) : WFA [] B nn P C A ls T sd := ⟨W.1, ⟨by simp, fun i => by simp⟩, W.2.2⟩
theorem W_S6 {q : ST6} (W : WFA t B nn P C A ls T sd) (ok : okS6 B nn q) : WFA t B nn q.1 q.2.1 q.2.2.1 q.2.2.2.1 T sd := ⟨ok.1, W.2.1, ok.2, W.2.2.2⟩
theorem W_ls (W : WFA t B nn P C A ls T sd) : okS6 B nn (lsS B x (P, C, A, ls, lk, wr)) := by
  have ok : okS6 B nn (P, C, A, ls, lk, wr) := ⟨W.1, W.2.2.1⟩
  unfold lsS
  split
  · rename_i q
    obtain ⟨n, en, _, hn⟩ := i_num (by omega) q.1 q.2 (by omega)
    rw [en, nI_clamp (by omega)]
    exact okS6_hold hn ok
  · exact ok
theorem TN_0 : TNok [] := ⟨by simp, fun i hi => absurd hi (by simp)⟩
theorem W_new {t' : List Nat} {B' : GB} {nn' : Nat} (W : WFA t B nn P C A ls T sd) (ht : t'.length ≤ 400 ∧ ∀ i, t'.getD i 0 < 256) (hB : bok B' nn') : WFA t' B' nn' (pS0 B') cS0 (aS0 B') none [] sd := ⟨(stS_ok hB).1, ht, (stS_ok hB).2, TN_0, W.2.2.2.2⟩
theorem W_say (W : WFA t B nn P C A ls T sd) : WFA t B nn P C A ls T (alT B P C (laN B P C) C.length) := by
  have hC := W.1.2.1.1
  have ao := alT_ok (B := B) (P := P) (C := C) (la := laN B P C) C.length hC
  refine ⟨W.1, W.2.1, W.2.2.1, W.2.2.2.1, ?_, fun i => ?_⟩
  · have := ao.1
    omega
  · by_cases q : i < (alT B P C (laN B P C) C.length).length
    · exact ao.2 _ (getD_mem q)
    · rw [List.getD_eq_getElem?_getD, List.getElem?_eq_none (by omega)]
      show 0 < 128
      omega
theorem W_tc {fp : Int32} {S : SS} (eS : S = (t, fp, B, nn, P, C, A, ls, lk, wr, T, sd)) (W : WFA t B nn P C A ls T sd) : WJ (tcS x S) := by
  subst eS
  by_cases q : nI 0 ≤ x ∧ x ≤ nI t.length
  · have := W.2.1.1
    obtain ⟨n, en, _, hn⟩ := i_num (by omega) q.1 q.2 (by omega)
    subst en
    cases e : prs t n 0 0 0 [] [] with
    | inl z =>
      obtain ⟨f, p⟩ := z
      rw [(tc_f (S := (t, fp, B, nn, P, C, A, ls, lk, wr, T, sd)) q (by omega) e).1]
      exact W_nil W
    | inr z =>
      obtain ⟨L, B1⟩ := z
      rw [(tc_o (S := (t, fp, B, nn, P, C, A, ls, lk, wr, T, sd)) q (by omega) e).1]
      exact W_new W ⟨by simp, fun i => by simp⟩ (prs_bok W.2.1.2 n 0 0 0 [] [] pok_0 e).1
  · rw [(tc_b (S := (t, fp, B, nn, P, C, A, ls, lk, wr, T, sd)) q).1]
    exact W
end WX
section RX
theorem k_count {t : List Nat} {B : GB} {nn : Nat} {P : List (List Nat)} {C : CL} {A : List (List Nat)} {lk wr : Nat} {x : Int32} : rok1 (rCount t B nn P C A lk wr x) := by
  intro c e; unfold rCount at e; split at e <;> cases e; rfl
theorem k_SS {u : List Nat} {k : Int32} : rok1 (rSS u k) := by
  intro c e; unfold rSS at e; split at e
  · cases e
  · split at e <;> cases e; rfl
theorem k_ofPart {P : List (List Nat)} {x k : Int32} : rok1 (rOfPart P x k) := by
  intro c e; unfold rOfPart at e; split at e
  · exact k_SS c e
  · cases e; rfl
theorem k_ofContext {C : CL} {x k : Int32} {b : Bool} : rok1 (rOfContext C x b k) := by
  intro c e; unfold rOfContext at e; split at e
  · exact k_SS c e
  · cases e; rfl
theorem k_kind {B : GB} {P : List (List Nat)} {C : CL} {x k : Int32} : rok1 (rKind B P C x k) := by
  intro c e; unfold rKind at e; split at e <;> cases e; rfl
theorem k_takes {B : GB} {P : List (List Nat)} {C : CL} {x p q : Int32} : rok1 (rTakes B P C x p q) := by
  intro c e; unfold rTakes at e; split at e <;> cases e; rfl
theorem k_within {B : GB} {P : List (List Nat)} {C : CL} {x o : Int32} : rok1 (rWithin B P C x o) := by
  intro c e; unfold rWithin at e; split at e <;> cases e; rfl
theorem k_rule {B : GB} {P : List (List Nat)} {C : CL} {n k : Int32} : rok1 (rRule B P C n k) := by
  intro c e; unfold rRule at e; split at e <;> cases e; rfl
theorem k_asked {B : GB} {A : List (List Nat)} {i k : Int32} : rok1 (rAsked B A i k) := by
  intro c e; unfold rAsked at e; split at e
  · split at e
    · cases e
    · exact k_SS c e
  · cases e; rfl
theorem k_latest {ls : LSn} {x : Int32} : rok1 (rLatest ls x) := by
  intro c e; unfold rLatest at e
  cases ls with
  | none => simp only at e; split at e <;> cases e; rfl
  | some v =>
    obtain ⟨u, was, cp, cc, a, b, d⟩ := v
    simp only at e
    split at e
    · cases e
    · split at e <;> cases e; rfl
theorem k_treed {T : TN} {i k : Int32} : rok1 (rTreed T i k) := by
  intro c e; unfold rTreed at e; split at e <;> cases e; rfl
theorem k_many {B : GB} {P : List (List Nat)} {C : CL} {l k : Int32} : rok (rMany B P C l k) := by
  intro c e; unfold rMany at e; split at e
  · split at e <;> cases e; exact Or.inr rfl
  · cases e; exact Or.inl rfl
theorem k_told {B : GB} {P : List (List Nat)} {C : CL} {l i k : Int32} {b : Bool} : rok (rTold B P C l b i k) := by
  intro c e; unfold rTold at e; split at e
  · split at e <;> cases e; exact Or.inr rfl
  · cases e; exact Or.inl rfl
theorem k_next {B : GB} {P : List (List Nat)} {C : CL} {l k : Int32} : rok (rNext B P C l k) := by
  intro c e; unfold rNext at e; split at e
  · unfold r2nd at e
    split at e <;> cases e; exact Or.inr rfl
  · cases e; exact Or.inl rfl
theorem k_word {t : List Nat} {B : GB} {P : List (List Nat)} {C : CL} {x : Int32} : rok1 (rWord t B P C x) := by
  intro c e; unfold rWord at e; split at e
  · split at e <;> cases e
  · cases e; rfl
theorem k_trees {t : List Nat} {B : GB} {P : List (List Nat)} {C : CL} {x : Int32} : rok1 (rTrees t B P C x) := by
  intro c e; unfold rTrees at e; split at e
  · split at e <;> cases e
  · cases e; rfl
theorem k_tree {t : List Nat} {B : GB} {P : List (List Nat)} {C : CL} {x : Int32} : rok1 (rTree t B P C x) := by
  intro c e; unfold rTree at e; split at e
  · split at e
    · split at e <;> cases e
    · cases e
  · cases e; rfl
theorem k_part {t : List Nat} {B : GB} {P : List (List Nat)} {x : Int32} : rok1 (rPart t B P x) := by
  intro c e; unfold rPart at e; split at e
  · split at e <;> cases e
  · cases e; rfl
theorem k_context {t : List Nat} {B : GB} {C : CL} {x y : Int32} : rok1 (rContext t B C x y) := by
  intro c e; unfold rContext at e; split at e
  · split at e <;> cases e
  · cases e; rfl
theorem k_lesson {B : GB} {P : List (List Nat)} {C : CL} {x : Int32} : rok1 (rLesson B P C x) := by
  intro c e; unfold rLesson at e; split at e <;> cases e; rfl
theorem k_learn {B : GB} {x y : Int32} {q : ST6} : rok1 (rLearn B x y q) := by
  intro c e; unfold rLearn at e; split at e <;> cases e; rfl
theorem k_teach {t : List Nat} {x : Int32} : rok1 (rTeach t x) := by
  intro c e; unfold rTeach at e; split at e
  · split at e <;> cases e
  · cases e; rfl
end RX
section KX
variable {r : Nat} {M : KM} {Q : KO → KH → Prop} {go : KB → List (Option Value) → List Value → KH → Prop} {ls : List (Option Value)} {h : KH} {E F : String} {pc k pc2 k2 : Nat}
theorem kx_1 (he : kex M = [(E, pc, k)]) : kx r M Q go ls E h = kto r M Q go pc ((kcl ls k).set k none) [] h := by
  unfold kx; rw [he]; simp
theorem kx_2a (he : kex M = [(E, pc, k), (F, pc2, k2)]) : kx r M Q go ls E h = kto r M Q go pc ((kcl ls k).set k none) [] h := by
  unfold kx; rw [he]; simp
theorem kx_2b (he : kex M = [(E, pc, k), (F, pc2, k2)]) (hne : (E == F) = false) : kx r M Q go ls F h = kto r M Q go pc2 ((kcl ls k2).set k2 none) [] h := by
  unfold kx; rw [he]; simp [List.find?, hne]
theorem kAN : (kIA == kNE) = false := by decide
end KX

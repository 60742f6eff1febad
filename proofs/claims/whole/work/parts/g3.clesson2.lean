/-! lesson, learn: what they make of the state; the class -/
abbrev ST6 : Type := List (List Nat) × CL × List (List Nat) × LSn × Nat × Nat
noncomputable def lrX (B : GB) (P : List (List Nat)) (C : CL) (s v : Nat) : List (List Nat) × CL × Int32 × Int32 × Int32 := Classical.epsilon (fun q : List (List Nat) × CL × Int32 × Int32 × Int32 => LR B P C s v q.1 q.2.1 q.2.2.1 q.2.2.2.1 q.2.2.2.2)
noncomputable def lsU (B : GB) (P : List (List Nat)) (C : CL) (l : Nat) : List Nat := wN (sgl B) (nxV B P C l).1 (nxV B P C l).2
noncomputable def lsT (B : GB) (P : List (List Nat)) (C : CL) (l : Nat) : Bool := derB B (lsU B P C l) 0
noncomputable def lsX (B : GB) (P : List (List Nat)) (C : CL) (l : Nat) : List (List Nat) × CL × Int32 × Int32 × Int32 := lrX B P C (nxV B P C l).1 (nxV B P C l).2
noncomputable def holdS (B : GB) (l : Nat) (q : ST6) : ST6 := @ite _ (noF B q.1 q.2.1 l) (Classical.propDecidable _) q ((lsX B q.1 q.2.1 l).1, (lsX B q.1 q.2.1 l).2.1, fT (lsX B q.1 q.2.1 l).1 (lsX B q.1 q.2.1 l).2.1 q.2.2.1 (lsX B q.1 q.2.1 l).2.1.length, some (lsU B q.1 q.2.1 l, if lsT B q.1 q.2.1 l = true then 1 else 2, (lsX B q.1 q.2.1 l).1.length - q.1.length, (lsX B q.1 q.2.1 l).2.1.length - q.2.1.length, (lsX B q.1 q.2.1 l).2.2.1, (lsX B q.1 q.2.1 l).2.2.2.1, (lsX B q.1 q.2.1 l).2.2.2.2), q.2.2.2.2.1 + (lsT B q.1 q.2.1 l).toNat, q.2.2.2.2.2 + (!lsT B q.1 q.2.1 l).toNat)
noncomputable def holdR (B : GB) (P : List (List Nat)) (C : CL) (l : Nat) : Int32 := @ite _ (noF B P C l) (Classical.propDecidable _) (if smD B P C l 0 = true then -nI 1 else nI 0) (nI (if lsT B P C l = true then 1 else 2))
section OP
variable {r : Nat} {h h' : KH} {Q : KO → KH → Prop} {t t' : List Nat} {fp : Int32} {B : GB} {nn : Nat} {P P' : List (List Nat)} {C C' : CL} {A A' : List (List Nat)} {ls ls' : LSn} {lk wr lk' wr' : Nat} {T : TN} {sd : List Nat} {g a b c d N e s : Nat}
theorem hold_n {l : Nat} (hn : noF B P C l) : holdS B l (P, C, A, ls, lk, wr) = (P, C, A, ls, lk, wr) ∧ holdR B P C l = (if smD B P C l 0 = true then -nI 1 else nI 0) := by
  constructor
  · unfold holdS; rw [if_pos hn]
  · unfold holdR; rw [if_pos hn]
theorem hold_F (hC : C.length ≤ 12) {l s v : Nat} (hF : isF B P C l s v) {x y z : Int32} (lr : LR B P C s v P' C' x y z) : holdS B l (P, C, A, ls, lk, wr) = (P', C', fT P' C' A C'.length, some (wN (sgl B) s v, (if derB B (wN (sgl B) s v) 0 = true then 1 else 2), P'.length - P.length, C'.length - C.length, x, y, z), lk + (derB B (wN (sgl B) s v) 0).toNat, wr + (!derB B (wN (sgl B) s v) 0).toNat) ∧ holdR B P C l = nI (if derB B (wN (sgl B) s v) 0 = true then 1 else 2) := by
  have hn : ¬ noF B P C l := fun q => isF_no hF q
  have sp := Classical.epsilon_spec (p := fun q : Nat × Nat => isF B P C l q.1 q.2) ⟨(s, v), hF⟩
  obtain ⟨e1, e2⟩ := isF_un hF sp
  have ev : nxV B P C l = (s, v) := by unfold nxV; exact Prod.ext e1 e2
  have sp2 := Classical.epsilon_spec (p := fun q : List (List Nat) × CL × Int32 × Int32 × Int32 => LR B P C s v q.1 q.2.1 q.2.2.1 q.2.2.2.1 q.2.2.2.2) ⟨(P', C', x, y, z), lr⟩
  obtain ⟨f1, f2, f3, f4, f5⟩ := LR_un hC lr sp2
  have ex : lsX B P C l = (P', C', x, y, z) := by
    unfold lsX lrX
    rw [ev]
    exact Prod.ext f1 (Prod.ext f2 (Prod.ext f3 (Prod.ext f4 f5)))
  have eu : lsU B P C l = wN (sgl B) s v := by unfold lsU; rw [ev]
  have et : lsT B P C l = derB B (wN (sgl B) s v) 0 := by unfold lsT; rw [eu]
  constructor
  · unfold holdS
    rw [if_neg hn]
    simp only [ex, eu, et]
  · unfold holdR
    rw [if_neg hn, et]
def okS6 (B : GB) (nn : Nat) (q : ST6) : Prop := WFs B nn q.1 q.2.1 q.2.2.1 ∧ LSok q.2.2.2.1
theorem hold_ok {l : Nat} (h6 : l ≤ 6) (W : WFs B nn P C A) (L : LSok ls) : okS6 B nn (holdS B l (P, C, A, ls, lk, wr)) := by
  rcases Classical.em (noF B P C l) with hn | hn
  · rw [(hold_n hn).1]; exact ⟨W, L⟩
  · have ex : ∃ s v, isF B P C l s v := by
      have : ∃ s v, 1 ≤ s ∧ s ≤ l ∧ v < (sgl B).length ^ s ∧ gdB B P C s v = true := by
        apply Classical.byContradiction
        intro q
        refine hn (fun s v h1 h2 h3 => ?_)
        rw [Bool.eq_false_iff]
        exact fun z => q ⟨s, v, h1, h2, h3, z⟩
      obtain ⟨s, ⟨v, h1, h2, h3, h4⟩, hmin⟩ := nat_least (p := fun s => ∃ v, 1 ≤ s ∧ s ≤ l ∧ v < (sgl B).length ^ s ∧ gdB B P C s v = true) this
      obtain ⟨v, ⟨g3, g4⟩, vmin⟩ := nat_least (p := fun v => v < (sgl B).length ^ s ∧ gdB B P C s v = true) ⟨v, h3, h4⟩
      refine ⟨s, v, h1, h2, g3, g4, fun s' v' q1 q2 q3 => ?_⟩
      rw [Bool.eq_false_iff]
      intro z
      rcases q3 with q3 | ⟨q3, q4⟩
      · exact hmin s' q3 ⟨v', q1, by omega, q2, z⟩
      · subst q3
        exact vmin v' q4 ⟨q2, z⟩
    obtain ⟨s, v, hF⟩ := ex
    obtain ⟨P', C', x, y, z, lr⟩ := LR_ex W.2.1 W.2.2.1 hF
    rw [(hold_F W.2.1.1 hF lr).1]
    refine ⟨WFs_next W h6 hF lr, ?_⟩
    intro u was cp cc a b c e
    have hv := hF.2.2.1
    have hs1 := hF.1
    have hs2 := hF.2.1
    have hp : 0 < (sgl B).length := Nat.pos_of_ne_zero (fun q => by rw [q, Nat.zero_pow (by omega)] at hv; omega)
    have wl := wN_len (sgl B) s v
    have wo := wN_ok (sl := sgl B) (fun s hs => sgl_lt hs) hp s v
    injection e with e
    obtain ⟨e1, e2, _⟩ := Prod.mk.inj e |>.imp id (fun z => Prod.mk.inj z)
    rw [← e1, ← e2]
    refine ⟨wo, by omega, by omega, ?_⟩
    split
    · exact Or.inl rfl
    · exact Or.inr rfl
theorem cx_hold {l : Nat} (hr : 11 ≤ r) (h6 : l ≤ 6) (K : CIx h t fp B nn P C A ls lk wr T sd g a b c d N e s) (W : WFs B nn P C A) (H : ∀ h' q, q = holdS B l (P, C, A, ls, lk, wr) → CIx h' t fp B nn q.1 q.2.1 q.2.2.1 q.2.2.2.1 q.2.2.2.2.1 q.2.2.2.2.2 T sd g a b c d N e s → FC h h' → Q (.inl (some (.int (holdR B P C l)))) h') : kCalls r yX11_holdLesson [.ref 1, .int (nI l)] h Q := by
  obtain ⟨⟨w, hk⟩, k1, k2, k3, ⟨k4, k5, k6⟩, k7, k8, k9, k10, wy, ⟨p1, p2, p3, p4', p5, p6⟩⟩ := id K
  obtain ⟨l11, l12⟩ := CLo_n k9
  obtain ⟨_, _, ⟨da, db, dc, dd⟩, nab⟩ := id k2.1.2.1
  have da' := da
  have db' := db
  have dc' := dc
  have dd' := dd
  have p2' := p2
  unfold isD at da' db' dc' dd' p2'
  have ns := k3.2.2.2
  refine c_hold (lk := lk) (wr := wr) hr w k1 W k2 h6 l11 l12 (fun h2 s' v' P' C' x y z f2 hF lr K2 S2 L2 => ?_) (fun h2 f2 i1 i2 K2 S2 hn => ?_)
  · obtain ⟨eS, eR⟩ := hold_F (A := A) (ls := ls) (lk := lk) (wr := wr) W.2.1.1 hF lr
    have := H h2 _ eS.symm (CIx_mk f2.1 (f2.2.1 1 (by simp; omega)) (f2.2.1 s (by simp; omega)) (f2.2.1 64 (by simp; omega)) (f2.2.1 50 (by simp; omega)) (f2.2.1 53 (by simp; omega)) (Zg_fr f2 (fun y hy => by simp at hy; omega) (fun y hy => by simp at hy; omega) 2 (by omega) k5) (Zg_fr f2 (fun y hy => by simp at hy; omega) (fun y hy => by simp at hy; omega) 14 (by omega) k6) K2 S2 (by rw [f2.2.1 27 (by simp; omega), f2.2.1 26 (by simp; omega)]; exact k7) L2 K) (FC_fr f2 (fun y hy => by simp at hy; omega) (fun y hy => by simp at hy; omega))
    rw [eR] at this
    exact this
  · obtain ⟨eS, eR⟩ := hold_n (A := A) (ls := ls) (lk := lk) (wr := wr) hn
    have := H h2 _ eS.symm (CIx_sw f2 i1 i2 S2 K) (FC_sw f2 k2)
    rw [eR] at this
    exact this
end OP

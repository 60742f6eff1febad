/-! the state that both sides keep, and how each keeps it -/
abbrev LSn : Type := Option (List Nat × Nat × Nat × Nat × Int32 × Int32 × Int32)
def CLo (h : KH) (ls : LSn) (lk wr : Nat) : Prop := match ls with
  | none => CLs h [] (-nI 1) (-nI 1) (-nI 1) (-nI 1) (-nI 1) (-nI 1) lk wr
  | some (u, was, cp, cc, x, y, z) => CLs h u (nI was) (nI cp) (nI cc) x y z lk wr
def MLo (h : KH) (ls : LSn) (lk wr : Nat) : Prop := match ls with
  | none => kI h 66 45 = nI 0 ∧ kI h 66 53 = nI lk ∧ kI h 66 54 = nI wr
  | some (u, was, cp, cc, x, y, z) => MLs h was cp cc x y z u lk wr
/-- what was said, in the class -/
def SPC (h : KH) (s : Nat) (sd : List Nat) : Prop := kR h 64 0 = s ∧ isD s ∧ s ≤ kN h ∧ ((kK h s = (3, 0) ∧ sd = []) ∨ kK h s = (3, 5316)) ∧ kI h 64 1 = nI sd.length ∧ ∀ i, i < sd.length → kI h s i = nI (sd.getD i 0)
def MSd (h : KH) (sd : List Nat) : Prop := kI h 66 82 = nI sd.length ∧ ∀ i, i < sd.length → kI h 103 i = nI (sd.getD i 0)
/-- the labels of arrays that may be made anew -/
def DYN (h : KH) (a b c d e s : Nat) : Prop := (a ≤ kN h ∧ b ≤ kN h ∧ c ≤ kN h ∧ d ≤ kN h) ∧ a ≠ e ∧ b ≠ e ∧ c ≠ s ∧ d ≠ s
def CIx (h : KH) (t : List Nat) (fp : Int32) (B : GB) (nn : Nat) (P : List (List Nat)) (C : CL) (A : List (List Nat)) (ls : LSn) (lk wr : Nat) (T : TN) (sd : List Nat) (g a b c d N e s : Nat) : Prop :=
  (kW h ∧ 105 ≤ kN h) ∧ CK h g B nn P C A ∧ CS h g B P C a b c d N ∧ DYN h a b c d e s ∧ (kR h 1 1 = 16 - g ∧ Zg h 2 ∧ Zg h 14) ∧ tpA (kI h 27) (kI h 26) 1 t ∧ kI h 1 2 = fp ∧ CLo h ls lk wr ∧ CT h T ∧ WY h e ∧ SPC h s sd
def CI (h : KH) (t : List Nat) (fp : Int32) (B : GB) (nn : Nat) (P : List (List Nat)) (C : CL) (A : List (List Nat)) (ls : LSn) (lk wr : Nat) (T : TN) (sd : List Nat) : Prop := ∃ g a b c d N e s, CIx h t fp B nn P C A ls lk wr T sd g a b c d N e s
def RI (h : KH) (t : List Nat) (fp : Int32) (B : GB) (nn : Nat) (P : List (List Nat)) (C : CL) (A : List (List Nat)) (ls : LSn) (lk wr : Nat) (T : TN) (sd : List Nat) : Prop :=
  (MS h B ∧ MB (kI h 66) (kI h 67) (kI h 68) (kI h 69) B nn ∧ kI h 66 1 = nI nn) ∧ MF h B P C ∧ MR h B P C ∧ LH h B P C ∧ (ML h B ∧ MTo h B) ∧ AM h B A ∧ tpA (kI h 75) (kI h 66) 15 t ∧ kI h 66 19 = fp ∧ kI h 66 35 = nI 0 ∧ MLo h ls lk wr ∧ TM h T ∧ MSd h sd
/-- what holds of the state itself -/
def LSok (ls : LSn) : Prop := ∀ u was cp cc x y z, ls = some (u, was, cp, cc, x, y, z) → wok u ∧ 1 ≤ u.length ∧ u.length ≤ 6 ∧ (was = 1 ∨ was = 2)
def TNok (T : TN) : Prop := T.length ≤ 39 ∧ ∀ i, i < T.length → (gT3 T i).1 < 12 ∧ (gT3 T i).2.1 + (gT3 T i).2.2 ≤ 20
def WFA (t : List Nat) (B : GB) (nn : Nat) (P : List (List Nat)) (C : CL) (A : List (List Nat)) (ls : LSn) (T : TN) (sd : List Nat) : Prop := WFs B nn P C A ∧ (t.length ≤ 400 ∧ ∀ i, t.getD i 0 < 256) ∧ LSok ls ∧ TNok T ∧ (sd.length ≤ 5316 ∧ ∀ i, sd.getD i 0 < 128)
/-- a call of the class leaves the reference, the script and the answer's cell -/
def F0C (h h' : KH) : Prop := (∀ x, x = 0 ∨ (66 ≤ x ∧ x ≤ 105) → kI h' x = kI h x ∧ kL h' x = kL h x) ∧ kK h' 0 = kK h 0 ∧ kK h' 105 = kK h 105
/-- how long the rows of short words are; in which of five classes that lies -/
def NNs (h : KH) : Nat := (kK h (kR h 55 4)).2
def rho (N : Nat) : Nat := (if 6 ≤ N then 1 else 0) + (if 126 ≤ N then 1 else 0) + (if 1092 ≤ N then 1 else 0) + (if 5460 ≤ N then 1 else 0)
/-- nothing was made -/
def FC (h h' : KH) : Prop := F0C h h' ∧ kC h' = kC h ∧ kS h' = kS h ∧ NNs h' = NNs h
/-- what a whole call may make -/
def FG (h h' : KH) : Prop := F0C h h' ∧ kC h' ≤ kC h + 4 ∧ kS h' + 21840 * rho (NNs h) ≤ kS h + 21840 * rho (NNs h') + 6000
section ST
variable {h h' : KH} {t : List Nat} {fp : Int32} {B : GB} {nn : Nat} {P : List (List Nat)} {C : CL} {A : List (List Nat)} {ls : LSn} {lk wr : Nat} {T : TN} {sd : List Nat} {g a b c d N e s : Nat}
theorem F0C_rf (h : KH) : F0C h h := ⟨fun _ _ => ⟨rfl, rfl⟩, rfl, rfl⟩
theorem FC_rf (h : KH) : FC h h := ⟨F0C_rf h, rfl, rfl, rfl⟩
theorem F0C_tr {h1 h2 : KH} (p : F0C h h1) (q : F0C h1 h2) : F0C h h2 := ⟨fun x hx => ⟨(q.1 x hx).1.trans (p.1 x hx).1, (q.1 x hx).2.trans (p.1 x hx).2⟩, q.2.1.trans p.2.1, q.2.2.trans p.2.2⟩
theorem FC_tr {h1 h2 : KH} (p : FC h h1) (q : FC h1 h2) : FC h h2 := ⟨F0C_tr p.1 q.1, q.2.1.trans p.2.1, q.2.2.1.trans p.2.2.1, q.2.2.2.trans p.2.2.2⟩
theorem FG_of (f : FC h h') : FG h h' := by
  obtain ⟨f0, f1, f2, f3⟩ := f
  refine ⟨f0, by omega, ?_⟩
  rw [f3]; omega
theorem FG_rf (h : KH) : FG h h := FG_of (FC_rf h)
theorem FG_tr {h1 h2 : KH} (p : FC h h1) (q : FG h1 h2) : FG h h2 := by
  obtain ⟨p0, p1, p2, p3⟩ := p
  obtain ⟨q0, q1, q2⟩ := q
  rw [p3] at q2
  exact ⟨F0C_tr p0 q0, by omega, by omega⟩
theorem FG_exc (h : KH) : FG h (kexc h) := by
  refine ⟨⟨fun _ _ => ⟨rfl, rfl⟩, rfl, rfl⟩, ?_, ?_⟩
  · show kC h + 1 ≤ _; omega
  · show kS h + 6 + 21840 * rho (NNs h) ≤ kS h + 21840 * rho (NNs h) + 6000; omega
theorem NNs_fx {S T' : List Nat} {D : List (Nat × Nat)} (f : FX S T' D h h') (hk : 105 ≤ kN h) (hD : (55, 4) ∉ D) (ha : kR h 55 4 ≤ kN h) : NNs h' = NNs h := by
  unfold NNs
  rw [f.2.2.2.2 55 4 (by omega) hD, f.2.2.2.1 (kR h 55 4) (by omega)]
theorem F0C_fx {S T' : List Nat} {D : List (Nat × Nat)} (f : FX S T' D h h') (hk : 105 ≤ kN h) (hS : ∀ x ∈ S, 1 ≤ x ∧ (x < 66 ∨ 105 < x)) (hT : ∀ x ∈ T', 1 ≤ x ∧ (x < 66 ∨ 105 < x)) : F0C h h' := by
  refine ⟨fun x hx => ⟨f.2.1 x (by omega) (fun q => by have := hS x q; omega), f.2.2.1 x (by omega) (fun q => by have := hT x q; omega)⟩, f.2.2.2.1 0 (by omega), f.2.2.2.1 105 (by omega)⟩
theorem FG_fx {S T' : List Nat} {D : List (Nat × Nat)} (f : FX S T' D h h') (hk : 105 ≤ kN h) (hS : ∀ x ∈ S, 1 ≤ x ∧ (x < 66 ∨ 105 < x)) (hT : ∀ x ∈ T', 1 ≤ x ∧ (x < 66 ∨ 105 < x)) (hD : (55, 4) ∉ D) (ha : kR h 55 4 ≤ kN h) (gr : GR 1 6000 h h') : FG h h' := by
  obtain ⟨g1, g2⟩ := gr
  refine ⟨F0C_fx f hk hS hT, by omega, ?_⟩
  rw [NNs_fx f hk hD ha]; omega
theorem FC_fr {S T' : List Nat} (f : Fr S T' h h') (hS : ∀ x ∈ S, 1 ≤ x ∧ (x < 66 ∨ 105 < x)) (hT : ∀ x ∈ T', 1 ≤ x ∧ (x < 66 ∨ 105 < x)) : FC h h' := by
  refine ⟨⟨fun x hx => ⟨f.2.1 x (fun q => by have := hS x q; omega), f.2.2 x (fun q => by have := hT x q; omega)⟩, ?_, ?_⟩, Fr_C f, Fr_S f, ?_⟩
  · rw [Fr_K f]
  · rw [Fr_K f]
  · unfold NNs; rw [Fr_K f, Fr_R f]
theorem RI_eq (f : ∀ x, 66 ≤ x → x ≤ 104 → kI h' x = kI h x ∧ kL h' x = kL h x) (K : RI h t fp B nn P C A ls lk wr T sd) : RI h' t fp B nn P C A ls lk wr T sd := by
  have e := fun x h1 h2 => (f x h1 h2).1
  have el := fun x h1 h2 => (f x h1 h2).2
  have LS : MLo h ls lk wr → MLo h' ls lk wr := by
    intro q
    unfold MLo at q ⊢
    cases ls with
    | none => rw [e 66 (by omega) (by omega)]; exact q
    | some v =>
      obtain ⟨u, was, cp, cc, x, y, z⟩ := v
      simp only [MLs] at q ⊢
      rw [e 66 (by omega) (by omega), e 94 (by omega) (by omega)]; exact q
  obtain ⟨⟨k1, k2, k3⟩, k4, k5, k6, ⟨k7, k8⟩, k9, k10, k11, k12, k13, k14, k15⟩ := K
  refine ⟨⟨?_, ?_, ?_⟩, ?_, ?_, ?_, ⟨?_, ?_⟩, ?_, ?_, ?_, ?_, LS k13, ?_, ?_⟩
  · unfold MS at k1 ⊢; rw [e 66 (by omega) (by omega), e 70 (by omega) (by omega)]; exact k1
  · rw [e 66 (by omega) (by omega), e 67 (by omega) (by omega), e 68 (by omega) (by omega), e 69 (by omega) (by omega)]; exact k2
  · rw [e 66 (by omega) (by omega)]; exact k3
  · unfold MF MT at k4 ⊢; rw [e 66 (by omega) (by omega), e 82 (by omega) (by omega), e 83 (by omega) (by omega), e 84 (by omega) (by omega), e 85 (by omega) (by omega), e 86 (by omega) (by omega), e 90 (by omega) (by omega), e 91 (by omega) (by omega)]; exact k4
  · unfold MR at k5 ⊢; rw [e 92 (by omega) (by omega), e 93 (by omega) (by omega)]; exact k5
  · unfold LH MHa at k6 ⊢; rw [e 66 (by omega) (by omega), e 81 (by omega) (by omega)]; exact k6
  · unfold ML at k7 ⊢; rw [e 78 (by omega) (by omega), e 79 (by omega) (by omega)]; exact k7
  · unfold MTo at k8 ⊢; rw [e 80 (by omega) (by omega)]; exact k8
  · unfold AM at k9 ⊢; rw [e 66 (by omega) (by omega), e 88 (by omega) (by omega), e 89 (by omega) (by omega), el 87 (by omega) (by omega)]; exact k9
  · rw [e 75 (by omega) (by omega), e 66 (by omega) (by omega)]; exact k10
  · rw [e 66 (by omega) (by omega)]; exact k11
  · rw [e 66 (by omega) (by omega)]; exact k12
  · unfold TM at k14 ⊢; rw [e 66 (by omega) (by omega), e 96 (by omega) (by omega), e 97 (by omega) (by omega), e 98 (by omega) (by omega)]; exact k14
  · unfold MSd at k15 ⊢; rw [e 66 (by omega) (by omega), e 103 (by omega) (by omega)]; exact k15
theorem RI_fc (f : F0C h h') (K : RI h t fp B nn P C A ls lk wr T sd) : RI h' t fp B nn P C A ls lk wr T sd := RI_eq (fun x h1 h2 => f.1 x (by omega)) K
theorem CLo_eq (e62 : kI h' 62 = kI h 62) (e63 : kI h' 63 = kI h 63) (l62 : kL h' 62 = kL h 62) (K : CLo h ls lk wr) : CLo h' ls lk wr := by
  unfold CLo at K ⊢
  cases ls with
  | none => simp only [CLs] at K ⊢; rw [e62, e63, l62]; exact K
  | some v =>
    obtain ⟨u, was, cp, cc, x, y, z⟩ := v
    simp only [CLs] at K ⊢; rw [e62, e63, l62]; exact K
/-- labels of the reference and behind -/
theorem CI_ref {S T' : List Nat} (f : Fr S T' h h') (hS : ∀ x ∈ S, 66 ≤ x ∧ x ≤ 105) (hT : ∀ x ∈ T', 66 ≤ x ∧ x ≤ 105) (K : CI h t fp B nn P C A ls lk wr T sd) : CI h' t fp B nn P C A ls lk wr T sd := by
  obtain ⟨g, a, b, c, d, N, e, s, ⟨w, hk⟩, k1, k2, k3, ⟨k4, k5, k6⟩, k7, k8, k9, k10, k11, k12⟩ := K
  have nS : ∀ x, ¬ (66 ≤ x ∧ x ≤ 105) → x ∉ S := fun x hx q => hx (hS x q)
  have nT : ∀ x, ¬ (66 ≤ x ∧ x ≤ 105) → x ∉ T' := fun x hx q => hx (hT x q)
  have eI : ∀ x, ¬ (66 ≤ x ∧ x ≤ 105) → kI h' x = kI h x := fun x hx => f.2.1 x (nS x hx)
  have eL : ∀ x, ¬ (66 ≤ x ∧ x ≤ 105) → kL h' x = kL h x := fun x hx => f.2.2 x (nT x hx)
  have eN := Fr_N f
  have eR := Fr_R f
  have eK := Fr_K f
  obtain ⟨y1, y2, y3, y4⟩ := k11
  obtain ⟨z1, z2, z3, z4, z5, z6⟩ := k12
  have s1 : ¬ (66 ≤ s ∧ s ≤ 105) := by unfold isD at z2; omega
  refine ⟨g, a, b, c, d, N, e, s, ⟨Fr_W f w, by rw [eN]; exact hk⟩, CK_fr f (fun x hx => ?_) (fun x hx => ?_) k1, CS_fr f (fun x hx => ?_) (fun x hx => ?_) k2, ?_, ⟨by rw [eR]; exact k4, ?_, ?_⟩, ?_, ?_, CLo_eq (eI 62 (by omega)) (eI 63 (by omega)) (eL 62 (by omega)) k9, ?_, ⟨by rw [eR]; exact y1, by rw [eK]; exact y2, y3, by rw [eN]; exact y4⟩, ⟨by rw [eR]; exact z1, z2, by rw [eN]; exact z3, by rw [eK]; exact z4, by rw [eI 64 (by omega)]; exact z5, by rw [eI s s1]; exact z6⟩⟩
  · have := hS x hx; unfold okC; simp; omega
  · have := hT x hx; unfold okC; simp; omega
  · have := hS x hx; unfold okS okT; simp; omega
  · have := hT x hx; unfold okT; simp; omega
  · unfold DYN at k3 ⊢; rw [eN]; exact k3
  · unfold Zg at k5 ⊢; rw [eI _ (by omega), eL _ (by omega), eL _ (by omega)]; exact k5
  · unfold Zg at k6 ⊢; rw [eI _ (by omega), eL _ (by omega), eL _ (by omega)]; exact k6
  · rw [eI 27 (by omega), eI 26 (by omega)]; exact k7
  · rw [eI 1 (by omega)]; exact k8
  · unfold CT at k10 ⊢; rw [eI 50 (by omega), eI 53 (by omega)]; exact k10

end ST

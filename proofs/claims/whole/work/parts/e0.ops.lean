/-! calls of both sides: what they answer, what they leave -/
abbrev RS : Type := Int32 ⊕ Nat
/-- the class: a value, or by its number what it throws -/
def exC (ec : Nat → String) (res : RS) : KO := match res with
  | .inl v => .inl (some (.int v))
  | .inr c => .inr (ec c)
def ecN : Nat → String := fun _ => kNE
def ecA : Nat → String := fun _ => kIA
def ecB : Nat → String := fun c => if c = 1 then kIA else kNE
/-- the reference: a value, and what would be thrown -/
def okM (res : RS) (h : KH) (v : Int32) : Prop := match res with
  | .inl u => v = u ∧ kI h 66 0 = nI 0
  | .inr c => kI h 66 0 = nI c
def FRf (h h' : KH) : Prop := ∃ S T : List Nat, Fr S T h h' ∧ (∀ x ∈ S, 66 ≤ x ∧ x ≤ 104) ∧ ∀ x ∈ T, 66 ≤ x ∧ x ≤ 104
def okJ (j : Nat) : Bool := [0, 16, 17, 21, 56, 57, 58, 63, 64, 65, 67, 68, 69, 71, 72, 73, 75, 76, 78, 79, 80].contains j
def okX (x : Nat) : Bool := [76, 77, 95, 99, 100, 101, 102].contains x
section OP
variable {h h' : KH} {t : List Nat} {fp : Int32} {B : GB} {nn : Nat} {P : List (List Nat)} {C : CL} {A : List (List Nat)} {ls : LSn} {lk wr : Nat} {T : TN} {sd : List Nat}
theorem ksw_n {offs : List Int} {J : Int → Prop} {d : Int} {n : Nat} (hn : n < 2 ^ 31) : ∀ k : Nat, k ≤ n → J (offs.getD (n - k) d) → ksw (nI n) (k : Int) offs J d := by
  induction offs with
  | nil => intro k hk H; exact H
  | cons f rest ih =>
    intro k hk H
    have e : Int32.ofInt (k : Int) = nI k := by
      apply z_inj
      show BitVec.ofInt 32 (k : Int) = BitVec.ofNat 32 k
      exact BitVec.ofInt_natCast 32 k
    refine ⟨fun q => ?_, fun q => ?_⟩
    · rw [e, a_eq hn (by omega)] at q
      subst q
      rw [Nat.sub_self] at H
      exact H
    · rw [e, a_eq hn (by omega)] at q
      have hk' : k + 1 ≤ n := by omega
      rw [show n - k = (n - (k + 1)) + 1 by omega] at H
      have := ih (k + 1) hk' H
      rw [show ((k + 1 : Nat) : Int) = (k : Int) + 1 by omega] at this
      exact this
theorem ksw_to {offs : List Int} {J : Int → Prop} {d : Int} {n : Nat} (hn : n < 2 ^ 31) (H : J (offs.getD n d)) : ksw (nI n) 0 offs J d := ksw_n hn 0 (by omega) H
theorem ksw_d {offs : List Int} {J : Int → Prop} {d : Int} {x : Int32} (H : J d) : ∀ k : Nat, k + offs.length < 2 ^ 31 → (∀ n, k ≤ n → n < k + offs.length → x ≠ nI n) → ksw x (k : Int) offs J d := by
  induction offs with
  | nil => intro k _ _; exact H
  | cons f rest ih =>
    intro k hk hx
    simp only [List.length_cons] at hk hx
    have e : Int32.ofInt (k : Int) = nI k := by
      apply z_inj
      show BitVec.ofInt 32 (k : Int) = BitVec.ofNat 32 k
      exact BitVec.ofInt_natCast 32 k
    refine ⟨fun q => absurd (q.trans e) (hx k (by omega) (by omega)), fun q => ?_⟩
    have := ih (k + 1) (by omega) (fun n h1 h2 => hx n (by omega) (by omega))
    rw [show ((k + 1 : Nat) : Int) = (k : Int) + 1 by omega] at this
    exact this
theorem ksw_df {offs : List Int} {J : Int → Prop} {d : Int} {x : Int32} (hl : offs.length < 2 ^ 31) (hx : ∀ n, n < offs.length → x ≠ nI n) (H : J d) : ksw x 0 offs J d := ksw_d H 0 (by omega) (fun n _ h2 => hx n (by omega))
theorem FRf_rf (h : KH) : FRf h h := ⟨[], [], Fr_rf _ _ _, by simp, by simp⟩
theorem FRf_fm {J S T' : List Nat} (f : FM J S T' h h') (hS : ∀ x ∈ S, 66 ≤ x ∧ x ≤ 104) (hT : ∀ x ∈ T', 66 ≤ x ∧ x ≤ 104) : FRf h h' := ⟨66 :: S, T', f.1, fun x hx => by
  rcases List.mem_cons.mp hx with e | e
  · omega
  · exact hS x e, hT⟩
theorem FRf_W (f : FRf h h') (w : kW h) : kW h' := by
  obtain ⟨S, T', f, _⟩ := f
  exact Fr_W f w
theorem CI_frf (f : FRf h h') (K : CI h t fp B nn P C A ls lk wr T sd) : CI h' t fp B nn P C A ls lk wr T sd := by
  obtain ⟨S, T', f, h1, h2⟩ := f
  exact CI_ref f (fun x hx => by have := h1 x hx; omega) (fun x hx => by have := h2 x hx; omega) K
theorem MLs_fm {J S T' : List Nat} {was cp cc : Nat} {x y z : Int32} {u : List Nat} (f : FM J S T' h h') (hJ : ∀ j ∈ J, okJ j = true) (hS : ∀ x ∈ S, okX x = true) (K : MLs h was cp cc x y z u lk wr) : MLs h' was cp cc x y z u lk wr := by
  have nj : ∀ j, okJ j = false → j ∉ J := fun j hj q => by rw [hJ j q] at hj; cases hj
  have nx : ∀ j, okX j = false → j ∉ S := fun j hj q => by rw [hS j q] at hj; cases hj
  unfold MLs
  rw [f.2 45 (nj _ rfl), f.2 46 (nj _ rfl), f.2 47 (nj _ rfl), f.2 48 (nj _ rfl), f.2 49 (nj _ rfl), f.2 50 (nj _ rfl), f.2 52 (nj _ rfl), FM_I f (a := 94) (nx _ rfl) (by omega), f.2 53 (nj _ rfl), f.2 54 (nj _ rfl)]
  exact K
theorem RI_fm {J S T' : List Nat} (f : FM J S T' h h') (hJ : ∀ j ∈ J, okJ j = true) (hS : ∀ x ∈ S, okX x = true) (hT : ∀ x ∈ T', x = 104) (K : RI h t fp B nn P C A ls lk wr T sd) : RI h' t fp B nn P C A ls lk wr T sd := by
  have nj : ∀ j, okJ j = false → j ∉ J := fun j hj q => by rw [hJ j q] at hj; cases hj
  have nx : ∀ j, okX j = false → j ∉ S := fun j hj q => by rw [hS j q] at hj; cases hj
  have nt : 87 ∉ T' := fun q => by have := hT 87 q; omega
  obtain ⟨⟨k1, k2, k3⟩, k4, k5, k6, ⟨k7, k8⟩, k9, k10, k11, k12, k13, k14, k15⟩ := K
  refine ⟨⟨MS_fm f (nj _ rfl) (nx _ rfl) k1, MB_fm f (nj _ rfl) (nj _ rfl) (nx _ rfl) (nx _ rfl) (nx _ rfl) k2, by rw [f.2 1 (nj _ rfl)]; exact k3⟩, MF_fm f (nj _ rfl) (nj _ rfl) (nx _ rfl) (nx _ rfl) (nx _ rfl) (nx _ rfl) (nx _ rfl) (nx _ rfl) (nx _ rfl) k4, MR_fm f (nx _ rfl) (nx _ rfl) k5, ?_, ⟨ML_fm f (nx _ rfl) (nx _ rfl) k7, MTo_fm f (nx _ rfl) k8⟩, AM_fm f (nj _ rfl) (nj _ rfl) (nx _ rfl) (nx _ rfl) nt k9, ?_, by rw [f.2 19 (nj _ rfl)]; exact k11, by rw [f.2 35 (nj _ rfl)]; exact k12, ?_, ?_, MSd_fm f (nj _ rfl) (nx _ rfl) k15⟩
  · obtain ⟨b, b1, b2⟩ := k6
    refine ⟨b, by rw [f.2 27 (nj _ rfl)]; exact b1, fun q => ?_⟩
    have := b2 q
    unfold MHa
    rw [FM_I f (a := 81) (nx _ rfl) (by omega)]; exact this
  · refine ⟨by rw [f.2 15 (nj _ rfl)]; exact k10.1, ?_⟩
    rw [FM_I f (a := 75) (nx _ rfl) (by omega)]; exact k10.2
  · unfold MLo at k13 ⊢
    cases ls with
    | none => rw [f.2 45 (nj _ rfl), f.2 53 (nj _ rfl), f.2 54 (nj _ rfl)]; exact k13
    | some v =>
      obtain ⟨u, was, cp, cc, x, y, z⟩ := v
      exact MLs_fm f hJ hS k13
  · unfold TM at k14 ⊢
    rw [f.2 62 (nj _ rfl), FM_I f (a := 96) (nx _ rfl) (by omega), FM_I f (a := 97) (nx _ rfl) (by omega), FM_I f (a := 98) (nx _ rfl) (by omega)]
    exact k14
end OP

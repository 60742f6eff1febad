/-! the object's constructor -/
/-- two heaps of one shape, with the same contents at D -/
def agr (D : Nat → Prop) (h h' : KH) : Prop := (kR h = kR h' ∧ kN h = kN h' ∧ kC h = kC h' ∧ kS h = kS h' ∧ ∀ x, x ≠ 0 → kK h x = kK h' x) ∧ ∀ x, D x → kI h x = kI h' x ∧ kL h x = kL h' x
section AG
variable {D : Nat → Prop} {h h' : KH}
theorem agr_new {kd : Nat × Nat} {n : Nat} (f : agr D h h') : agr D (knew h kd n) (knew h' kd n) := by
  obtain ⟨⟨a1, a2, a3, a4, a5⟩, b⟩ := f
  refine ⟨⟨?_, by rw [kN_new, kN_new, a2], by rw [kC_new, kC_new, a3], by rw [kS_new, kS_new, a4], fun x hx => ?_⟩, fun x hx => ?_⟩
  · funext x; rw [kR_new, kR_new, a1, a2]
  · rw [kK_new, kK_new, a2, a5 x hx]
  · rw [kI_new, kI_new, kL_new, kL_new, a2, (b x hx).1, (b x hx).2]; exact ⟨rfl, rfl⟩
theorem agr_sI {a j : Nat} {v : Int32} (f : agr D h h') : agr D (sI h a j v) (sI h' a j v) := by
  refine ⟨f.1, fun x hx => ⟨?_, (f.2 x hx).2⟩⟩
  rw [kI_sI, kI_sI]
  by_cases q : x = a
  · subst q; rw [if_pos rfl, if_pos rfl, (f.2 x hx).1]
  · rw [if_neg q, if_neg q]; exact (f.2 x hx).1
theorem agr_sL {a j : Nat} {v : Int64} (f : agr D h h') : agr D (sL h a j v) (sL h' a j v) := by
  refine ⟨f.1, fun x hx => ⟨(f.2 x hx).1, ?_⟩⟩
  rw [kL_sL, kL_sL]
  by_cases q : x = a
  · subst q; rw [if_pos rfl, if_pos rfl, (f.2 x hx).2]
  · rw [if_neg q, if_neg q]; exact (f.2 x hx).2
theorem agr_sR {a j v : Nat} (f : agr D h h') : agr D (sR h a j v) (sR h' a j v) := by
  refine ⟨⟨?_, f.1.2⟩, f.2⟩
  funext x; rw [kR_sR, kR_sR, f.1.1]
theorem agr_N (f : agr D h h') {n : Nat} (e : kN h' = n) : kN h = n := f.1.2.1.trans e
theorem agr_R (f : agr D h h') {a j n : Nat} (e : kR h' a j = n) : kR h a j = n := by rw [f.1.1]; exact e
theorem agr_K (f : agr D h h') {a : Nat} {k : Nat × Nat} (ha : a ≠ 0) (e : kK h' a = k) : kK h a = k := (f.1.2.2.2.2 a ha).trans e
/-- the script stands at label 0 -/
def az (L : Nat) (xs : Nat → Int32) (h : KH) : Prop := kK h 0 = (9, L) ∧ kI h 0 = xs
theorem az_new {L : Nat} {xs : Nat → Int32} {kd : Nat × Nat} {n : Nat} (f : az L xs h) : az L xs (knew h kd n) := by
  refine ⟨?_, ?_⟩
  · rw [kK_new, if_neg (by omega)]; exact f.1
  · rw [kI_new, if_neg (by omega)]; exact f.2
theorem az_sI {L : Nat} {xs : Nat → Int32} {a j : Nat} {v : Int32} (ha : a ≠ 0) (f : az L xs h) : az L xs (sI h a j v) := ⟨f.1, by rw [kI_sI, if_neg (fun q => ha q.symm)]; exact f.2⟩
theorem az_sL {L : Nat} {xs : Nat → Int32} {a j : Nat} {v : Int64} (f : az L xs h) : az L xs (sL h a j v) := f
theorem az_sR {L : Nat} {xs : Nat → Int32} {a j v : Nat} (f : az L xs h) : az L xs (sR h a j v) := f
theorem wk_0 : ∀ q ∈ kWK, q.1 ≠ 0 := by decide
theorem agr_W (f : agr D h h') (w : kW h') : kW h := by
  refine ⟨fun q hq => ?_, fun q hq => ?_⟩
  · rw [f.1.1]; exact w.1 q hq
  · rw [f.1.2.2.2.2 _ (wk_0 q hq)]; exact w.2 q hq
end AG
def KRf (a j : Nat) : Nat := match kWR.find? (fun q => q.1 == a && q.2.1 == j) with
  | some q => q.2.2
  | none => 0
def KKf (a : Nat) : Nat × Nat := match kWK.find? (fun q => q.1 == a) with
  | some q => q.2
  | none => (0, 0)
/-- the heap ahead of all: nothing is made; the shape of labels to come stands already -/
def Z0 (L : Nat) (xs : Nat → Int32) : KH := (fun a => if a = 0 then xs else fun _ => 0, fun _ _ => 0, fun a j => if a = 0 then 0 else KRf a j, fun a => if a = 0 then (9, L) else KKf a, 0, 0, 0)
theorem Z0_ag (L : Nat) (xs : Nat → Int32) : agr (fun x => x ≠ 0) (Z0 L xs) (Z0 0 (fun _ => 0)) := by
  refine ⟨⟨rfl, rfl, rfl, rfl, fun x hx => ?_⟩, fun x hx => ⟨?_, rfl⟩⟩
  · show (if x = 0 then (9, L) else KKf x) = (if x = 0 then (9, 0) else KKf x)
    rw [if_neg hx, if_neg hx]
  · show (if x = 0 then xs else fun _ => 0) = (if x = 0 then (fun _ => 0) else fun _ => 0)
    rw [if_neg hx, if_neg hx]
/-- the same as knew, its label named -/
def knl (h : KH) (m : Nat) (kd : Nat × Nat) (n : Nat) : KH := (va_up (kI h) m (fun _ => 0), va_up (kL h) m (fun _ => 0), va_up (kR h) m (fun _ => 0), va_up (kK h) m kd, m, kC h + 1, kS h + n)
theorem agr_knl {D : Nat → Prop} {h h' : KH} {m : Nat} {kd : Nat × Nat} {n : Nat} (e : kN h' + 1 = m) (f : agr D h h') : agr D (knew h kd n) (knl h' m kd n) := by
  subst e
  exact agr_new f
def G1 : KH := knl (Z0 0 (fun _ => 0)) 1 (0, 11) 13
def jn_2 (h : KH) : KH := sR (knl (sR (knl (sR (knl (sR (knl (sR (knl (sR (knl (sL (sI (sI (sI (sI (sI (sR (knl (sR (knl (sR (knl (sR (knl (sR (knl h 3 (1, 26) 26) 2 0 3) 4 (1, 16) 16) 2 1 4) 5 (1, 16) 16) 2 2 5) 6 (1, 64) 64) 2 3 6) 7 (1, 4) 4) 2 4 7) 2 5 (nI 0)) 2 6 (nI 0)) 2 7 (nI 0)) 2 8 (nI 0)) 2 9 (-nI 1)) 2 10 (lN 0)) 8 (1, 64) 64) 2 11 8) 9 (1, 4) 4) 2 12 9) 10 (2, 64) 64) 2 13 10) 11 (2, 4) 4) 2 14 11) 12 (2, 64) 64) 2 15 12) 13 (2, 4) 4) 2 16 13
def jn_14 (h : KH) : KH := sR (knl (sR (knl (sR (knl (sR (knl (sR (knl (sR (knl (sL (sI (sI (sI (sI (sI (sR (knl (sR (knl (sR (knl (sR (knl (sR (knl h 15 (1, 26) 26) 14 0 15) 16 (1, 16) 16) 14 1 16) 17 (1, 16) 16) 14 2 17) 18 (1, 64) 64) 14 3 18) 19 (1, 4) 4) 14 4 19) 14 5 (nI 0)) 14 6 (nI 0)) 14 7 (nI 0)) 14 8 (nI 0)) 14 9 (-nI 1)) 14 10 (lN 0)) 20 (1, 64) 64) 14 11 20) 21 (1, 4) 4) 14 12 21) 22 (2, 64) 64) 14 13 22) 23 (2, 4) 4) 14 14 23) 24 (2, 64) 64) 14 15 24) 25 (2, 4) 4) 14 16 25
def jn_26 (h : KH) : KH := sI (sR (knl h 27 (1, 400) 400) 26 0 27) 26 1 (nI 0)
def jn_28 (h : KH) : KH := sR (sL (sR (knl (sR (knl (sR (knl h 29 (2, 400) 400) 28 0 29) 30 (2, 20) 20) 28 1 30) 31 (1, 21) 21) 28 2 31) 28 4 (lN 1)) 28 3 2
def jn_32 (h : KH) : KH := sI (sI (sR (knl (sR (knl h 33 (2, 3264) 3264) 32 0 33) 34 (1, 4096) 4096) 32 1 34) 32 2 (nI 0)) 32 3 (nI 0)
def jn_35 (h : KH) : KH := sI (sI (sI (sI (sR (knl (sR (knl (sR (knl (sR (knl (sR (knl h 36 (2, 16) 16) 35 0 36) 37 (2, 12) 12) 35 1 37) 38 (2, 12) 12) 35 2 38) 39 (1, 12) 12) 35 3 39) 40 (1, 192) 192) 35 4 40) 35 5 (nI 0)) 35 6 (nI 0)) 35 7 (nI 0)) 35 8 (nI 0)
def jn_41 (h : KH) : KH := sI (sI (sR (knl (sR (knl (sR (knl (sR (knl h 42 (1, 4) 4) 41 0 42) 43 (1, 144) 144) 41 1 43) 44 (1, 1536) 1536) 41 2 44) 45 (1, 13) 13) 41 3 45) 41 4 (nI 0)) 41 5 (nI 0)
def jn_46 (h : KH) : KH := sI (sI (sI (sR (knl (sR (knl (sR (knl h 47 (1, 12) 12) 46 0 47) 48 (1, 12) 12) 46 1 48) 49 (1, 21) 21) 46 2 49) 46 3 (nI 0)) 46 4 (nI 0)) 46 5 (nI 0)
def jn_50 (h : KH) : KH := sR (sI (sR (knl (sR (knl (sR (knl (sR (knl h 51 (1, 400) 400) 50 1 51) 52 (2, 0) 0) 50 2 52) 53 (1, 39) 39) 50 3 53) 54 (1, 39) 39) 50 4 54) 50 5 (nI 0)) 50 0 41
def jn_55 (h : KH) : KH := sR (sR (sI (sI (sR (knl (sR (knl (sR (knl (sR (knl (sR (knl (sR (knl h 56 (1, 7) 7) 55 2 56) 57 (1, 8) 8) 55 3 57) 58 (2, 0) 0) 55 4 58) 59 (2, 0) 0) 55 5 59) 60 (3, 0) 0) 55 6 60) 61 (1, 0) 0) 55 7 61) 55 8 (nI 0)) 55 9 (nI 0)) 55 0 41) 55 1 2
def jn_62 (h : KH) : KH := sR (sR (sR (sR (sI (sI (sR (knl (sI (sI (sI (sL (sI (sL (h) 62 4 (lN 1)) 62 5 (nI 0)) 62 6 (lN 1)) 62 7 (-nI 1)) 62 8 (-nI 1)) 62 9 (-nI 1)) 63 (1, 3) 3) 62 10 63) 62 11 (nI 0)) 62 12 (nI 0)) 62 0 28) 62 1 35) 62 2 50) 62 3 55
def jn_64 (h : KH) : KH := sI (sR (knl h 65 (3, 0) 0) 64 0 65) 64 1 (nI 0)
def jn_66 (h : KH) : KH := sR (knl (sR (knl (sR (knl (sR (knl (sR (knl (sR (knl (sR (knl (sR (knl (sR (knl (sR (knl (sR (knl (sR (knl (sR (knl (sR (knl (sR (knl (sR (knl (sR (knl (sR (knl (sR (knl (sR (knl (sR (knl (sR (knl (sR (knl (sR (knl (sR (knl (sR (knl (sR (knl (sR (knl (sR (knl (sI (sR (knl (sR (knl (sR (knl (sR (knl (sR (knl (sR (knl (sR (knl (sR (knl (sR (knl h 67 (1, 16) 16) 66 3 67) 68 (1, 16) 16) 66 4 68) 69 (1, 64) 64) 66 5 69) 70 (1, 4) 4) 66 7 70) 71 (1, 16) 16) 66 10 71) 72 (1, 16) 16) 66 11 72) 73 (1, 64) 64) 66 12 73) 74 (1, 6) 6) 66 13 74) 75 (1, 400) 400) 66 14 75) 66 19 (-nI 1)) 76 (1, 24) 24) 66 20 76) 77 (1, 441) 441) 66 22 77) 78 (1, 8) 8) 66 23 78) 79 (1, 8) 8) 66 24 79) 80 (4, 5500) 5500) 66 25 80) 81 (1, 5500) 5500) 66 26 81) 82 (1, 16) 16) 66 29 82) 83 (1, 96) 96) 66 30 83) 84 (1, 12) 12) 66 32 84) 85 (1, 12) 12) 66 33 85) 86 (1, 60) 60) 66 34 86) 87 (2, 3400) 3400) 66 38 87) 88 (4, 3400) 3400) 66 39 88) 89 (1, 8192) 8192) 66 40 89) 90 (1, 12) 12) 66 41 90) 91 (1, 192) 192) 66 42 91) 92 (1, 12) 12) 66 43 92) 93 (1, 144) 144) 66 44 93) 94 (1, 6) 6) 66 51 94) 95 (1, 441) 441) 66 55 95) 96 (1, 40) 40) 66 59 96) 97 (1, 40) 40) 66 60 97) 98 (1, 40) 40) 66 61 98) 99 (1, 6) 6) 66 66 99) 100 (1, 6) 6) 66 70 100) 101 (1, 6) 6) 66 74 101) 102 (1, 12) 12) 66 77 102) 103 (3, 6400) 6400) 66 81 103) 104 (2, 5292) 5292) 66 83 104
def G13 : KH := jn_2 (knl G1 2 (0, 1) 17)
def G25 : KH := jn_14 (knl (sR G13 1 0 2) 14 (0, 1) 17)
def G27 : KH := jn_26 (knl (sI (sR G25 1 1 14) 1 2 (-1)) 26 (0, 9) 2)
def G31 : KH := jn_28 (knl (sR G27 1 3 26) 28 (0, 10) 5)
def G34 : KH := jn_32 (knl (sR G31 1 4 28) 32 (0, 0) 4)
def G40 : KH := jn_35 (knl (sR G34 1 5 32) 35 (0, 8) 9)
def G45 : KH := jn_41 (knl (sR G40 1 6 35) 41 (0, 5) 6)
def G49 : KH := jn_46 (knl (sR G45 1 7 41) 46 (0, 2) 6)
def G54 : KH := jn_50 (knl (sR G49 1 8 46) 50 (0, 3) 6)
def G61 : KH := jn_55 (knl (sR G54 1 9 50) 55 (0, 6) 10)
def G63 : KH := jn_62 (knl (sR G61 1 10 55) 62 (0, 4) 13)
def G65 : KH := jn_64 (knl (sR G63 1 11 62) 64 (0, 7) 2)
def GZ : KH := sR G65 1 12 64
def G66 : KH := knl GZ 66 (0, 12) 84
def G104 : KH := jn_66 G66
def G105 : KH := knl G104 105 (2, 1) 1
theorem GZ_W : kW GZ := by unfold kW; decide +kernel
theorem G104_W : kW G104 := by unfold kW; decide +kernel
theorem G105_W : kW G105 := by unfold kW; decide +kernel
theorem G105_S : kS G105 ≤ 200000 := by decide +kernel
section CI0
variable {r : Nat} {h h' : KH} {Q : KO → KH → Prop}
theorem sgl_nil : sgl [] = [] := by unfold sgl; rw [sgB_nil]; rfl
theorem bok_nil : bok [] 0 := ⟨by simp, by omega, fun b hb => absurd hb (by simp)⟩
section PP
variable (ag : agr (fun x => x ≠ 0) h GZ)
theorem gp_I (ag : agr (fun x => x ≠ 0) h GZ) {x : Nat} (hx : x ≠ 0) : kI h x = kI GZ x := (ag.2 x hx).1
theorem gp_L (ag : agr (fun x => x ≠ 0) h GZ) {x : Nat} (hx : x ≠ 0) : kL h x = kL GZ x := (ag.2 x hx).2
theorem gp_GQ (ag : agr (fun x => x ≠ 0) h GZ) : GQ h 2 [] 0 := by
  unfold GQ GA PS NS1
  rw [sgB_nil, gp_I ag (x := 2) (by omega), gp_I ag (x := 2 + 4) (by omega), gp_I ag (x := 2 + 2) (by omega), gp_I ag (x := 2 + 3) (by omega), gp_I ag (x := 2 + 5) (by omega), gp_I ag (x := 2 + 6) (by omega), gp_I ag (x := 2 + 7) (by omega), gp_L ag (x := 2) (by omega), gp_L ag (x := 2 + 8) (by omega), gp_L ag (x := 2 + 9) (by omega), gp_L ag (x := 2 + 10) (by omega), gp_L ag (x := 2 + 11) (by omega)]
  refine ⟨⟨by decide +kernel, by decide +kernel, fun b hb => absurd hb (by simp)⟩, bok_nil, by decide +kernel, ⟨by decide +kernel, fun i hi => absurd hi (by rw [show (slk 0 4).length = 0 from rfl]; omega), fun s hs => ?_⟩, by decide +kernel, fun m _ hm => ?_⟩
  · have e1 : gup [] 0 (oo [] s) = 0 := rfl
    have e2 : sw [] s = 0 := rfl
    have e3 : wf [] s = 0 := rfl
    rw [e1, e2, e3]
    have := (by decide +kernel : ∀ s, s < 4 → kI GZ (2 + 7) s = nI 0 ∧ kL GZ (2 + 9) s = lN 0 ∧ kL GZ (2 + 11) s = lN 0)
    exact this s hs
  · have := hm rfl
    subst this
    rw [ofs_0, ofs_0, ofs_0]
    decide +kernel
theorem gp_TC (ag : agr (fun x => x ≠ 0) h GZ) : TCx h [] := by
  refine ⟨[], ?_, fun x hx => absurd hx List.not_mem_nil, by simp, fun i j h1 h2 => absurd h2 (by simp; omega), fun j h1 h2 => absurd h2 (by simp; omega)⟩
  rw [gp_L ag (by omega)]
  decide +kernel
theorem gp_Z (ag : agr (fun x => x ≠ 0) h GZ) : Z44 h := by
  unfold Z44
  rw [gp_I ag (x := 44) (by omega)]
  have := (by decide +kernel : ∀ y, y < 12 → ∀ hf, hf < 2 → kI GZ 44 ((y * 2 + hf) * 64) = nI 0)
  exact fun y hf h1 h2 => this y h1 hf h2
theorem gp_CS (ag : agr (fun x => x ≠ 0) h GZ) : CS h 2 [] [] [] 58 59 60 61 0 := by
  refine ⟨⟨?_, ⟨⟨agr_R ag (by decide +kernel), agr_R ag (by decide +kernel), agr_R ag (by decide +kernel), agr_R ag (by decide +kernel)⟩, ⟨agr_K ag (by omega) (by decide +kernel), agr_K ag (by omega) (by decide +kernel), agr_K ag (by omega) (by decide +kernel), agr_K ag (by omega) (by decide +kernel)⟩, ⟨by unfold isD; omega, by unfold isD; omega, by unfold isD; omega, by unfold isD; omega⟩, by omega⟩, by rw [sgl_nil]; decide, by omega, agr_R ag (by decide +kernel)⟩, 0, 0, by omega, by omega, ?_, ?_, fun l v h1 h2 => absurd h2 (by omega), fun l v h1 h2 => absurd h2 (by omega)⟩
  · unfold AMS
    rw [sgl_nil, gp_I ag (x := 56) (by omega), gp_I ag (x := 57) (by omega)]
    have e1 := (by decide +kernel : ∀ l, l < 7 → 1 ≤ l → kI GZ 56 l = nI (([] : List Nat).length ^ l))
    have e2 := (by decide +kernel : ∀ l, l < 8 → 1 ≤ l → kI GZ 57 l = nI (fFr ([] : List Nat).length l))
    exact ⟨fun l h1 h2 => e1 l (by omega) h1, fun l h1 h2 => e2 l (by omega) h1⟩
  · rw [gp_I ag (by omega)]; decide +kernel
  · rw [gp_I ag (by omega)]; decide +kernel
end PP
end CI0

/-! whole rows of ints and longs put at once -/
def sIA (h : KH) (a : Nat) (f : Nat → Int32) : KH := (va_up h.1 a f, h.2)
def sLA (h : KH) (a : Nat) (f : Nat → Int64) : KH := (h.1, va_up h.2.1 a f, h.2.2)
theorem sI_A (h : KH) (a j : Nat) (v : Int32) : sI h a j v = sIA h a (upd (kI h a) j v) := rfl
theorem sL_A (h : KH) (a j : Nat) (v : Int64) : sL h a j v = sLA h a (vp_updL (kL h a) j v) := rfl
theorem kI_sIA (h : KH) (a : Nat) (f : Nat → Int32) (b : Nat) : kI (sIA h a f) b = if b = a then f else kI h b := rfl
theorem kL_sIA (h : KH) (a : Nat) (f : Nat → Int32) : kL (sIA h a f) = kL h := rfl
theorem kR_sIA (h : KH) (a : Nat) (f : Nat → Int32) : kR (sIA h a f) = kR h := rfl
theorem kK_sIA (h : KH) (a : Nat) (f : Nat → Int32) : kK (sIA h a f) = kK h := rfl
theorem kI_sLA (h : KH) (a : Nat) (f : Nat → Int64) : kI (sLA h a f) = kI h := rfl
theorem kL_sLA (h : KH) (a : Nat) (f : Nat → Int64) (b : Nat) : kL (sLA h a f) b = if b = a then f else kL h b := rfl
theorem kR_sLA (h : KH) (a : Nat) (f : Nat → Int64) : kR (sLA h a f) = kR h := rfl
theorem kK_sLA (h : KH) (a : Nat) (f : Nat → Int64) : kK (sLA h a f) = kK h := rfl
theorem up_up {α : Type} (f : Nat → α) (a : Nat) (x y : α) : va_up (va_up f a x) a y = va_up f a y := by
  funext j
  simp only [va_up]
  split <;> rfl
theorem sIA_A (h : KH) (a : Nat) (f g : Nat → Int32) : sIA (sIA h a f) a g = sIA h a g := by simp only [sIA, up_up]
theorem sLA_A (h : KH) (a : Nat) (f g : Nat → Int64) : sLA (sLA h a f) a g = sLA h a g := by simp only [sLA, up_up]
theorem up_cm {α : Type} (f : Nat → α) {a b : Nat} (x y : α) (hab : a ≠ b) : va_up (va_up f a x) b y = va_up (va_up f b y) a x := by
  funext j
  simp only [va_up]
  by_cases h1 : j = a
  · subst h1; simp [hab]
  · simp [h1]
theorem sIA_cm (h : KH) {a b : Nat} (f g : Nat → Int32) (hab : a ≠ b) : sIA (sIA h a f) b g = sIA (sIA h b g) a f := by simp only [sIA, up_cm _ f g hab]
theorem sLA_cm (h : KH) {a b : Nat} (f g : Nat → Int64) (hab : a ≠ b) : sLA (sLA h a f) b g = sLA (sLA h b g) a f := by simp only [sLA, up_cm _ f g hab]
theorem sLI_cm (h : KH) {a b : Nat} (f : Nat → Int64) (g : Nat → Int32) : sLA (sIA h b g) a f = sIA (sLA h a f) b g := rfl
theorem sIA_id (h : KH) (a : Nat) : sIA h a (kI h a) = h := by
  have : va_up h.1 a (h.1 a) = h.1 := by
    funext j
    simp only [va_up]
    split
    · rename_i e; rw [e]
    · rfl
  simp only [sIA, kI, this]
theorem sLA_id (h : KH) (a : Nat) : sLA h a (kL h a) = h := by
  have : va_up h.2.1 a (h.2.1 a) = h.2.1 := by
    funext j
    simp only [va_up]
    split
    · rename_i e; rw [e]
    · rfl
  simp only [sLA, kL, this]
theorem up_ind {P : Nat → Prop} {n : Nat} (hn : P n) (hs : ∀ i, i < n → P (i + 1) → P i) : ∀ i, i ≤ n → P i := by
  intro i hi
  obtain ⟨d, rfl⟩ := Nat.exists_eq_add_of_le hi
  clear hi
  induction d generalizing i with
  | zero => exact hn
  | succ d ih =>
    have e : i + (d + 1) = i + 1 + d := by omega
    rw [e] at hn hs
    exact hs i (by omega) (ih (i + 1) hn hs)
theorem dn_ind {P : Nat → Prop} (h0 : P 0) (hs : ∀ i, P i → P (i + 1)) : ∀ i, P i
  | 0 => h0
  | i + 1 => hs i (dn_ind h0 hs i)

def kWR : List (Nat × Nat × Nat) := [(1, 3, 26), (1, 4, 28), (1, 5, 32), (1, 6, 35), (1, 7, 41), (1, 8, 46), (1, 9, 50), (1, 10, 55), (1, 11, 62), (1, 12, 64), (2, 0, 3), (2, 1, 4), (2, 2, 5), (2, 3, 6), (2, 4, 7), (2, 11, 8), (2, 12, 9), (2, 13, 10), (2, 14, 11), (2, 15, 12), (2, 16, 13), (14, 0, 15), (14, 1, 16), (14, 2, 17), (14, 3, 18), (14, 4, 19), (14, 11, 20), (14, 12, 21), (14, 13, 22), (14, 14, 23), (14, 15, 24), (14, 16, 25), (26, 0, 27), (28, 0, 29), (28, 1, 30), (28, 2, 31), (32, 0, 33), (32, 1, 34), (35, 0, 36), (35, 1, 37), (35, 2, 38), (35, 3, 39), (35, 4, 40), (41, 0, 42), (41, 1, 43), (41, 2, 44), (41, 3, 45), (46, 0, 47), (46, 1, 48), (46, 2, 49), (50, 0, 41), (50, 1, 51), (50, 3, 53), (50, 4, 54), (55, 0, 41), (55, 2, 56), (55, 3, 57), (62, 0, 28), (62, 1, 35), (62, 2, 50), (62, 3, 55), (62, 10, 63), (66, 3, 67), (66, 4, 68), (66, 5, 69), (66, 7, 70), (66, 10, 71), (66, 11, 72), (66, 12, 73), (66, 13, 74), (66, 14, 75), (66, 20, 76), (66, 22, 77), (66, 23, 78), (66, 24, 79), (66, 25, 80), (66, 26, 81), (66, 29, 82), (66, 30, 83), (66, 32, 84), (66, 33, 85), (66, 34, 86), (66, 38, 87), (66, 39, 88), (66, 40, 89), (66, 41, 90), (66, 42, 91), (66, 43, 92), (66, 44, 93), (66, 51, 94), (66, 55, 95), (66, 59, 96), (66, 60, 97), (66, 61, 98), (66, 66, 99), (66, 70, 100), (66, 74, 101), (66, 77, 102), (66, 81, 103), (66, 83, 104)]
def kWK : List (Nat × Nat × Nat) := [(1, 0, 11), (2, 0, 1), (3, 1, 26), (4, 1, 16), (5, 1, 16), (6, 1, 64), (7, 1, 4), (8, 1, 64), (9, 1, 4), (10, 2, 64), (11, 2, 4), (12, 2, 64), (13, 2, 4), (14, 0, 1), (15, 1, 26), (16, 1, 16), (17, 1, 16), (18, 1, 64), (19, 1, 4), (20, 1, 64), (21, 1, 4), (22, 2, 64), (23, 2, 4), (24, 2, 64), (25, 2, 4), (26, 0, 9), (27, 1, 400), (28, 0, 10), (29, 2, 400), (30, 2, 20), (31, 1, 21), (32, 0, 0), (33, 2, 3264), (34, 1, 4096), (35, 0, 8), (36, 2, 16), (37, 2, 12), (38, 2, 12), (39, 1, 12), (40, 1, 192), (41, 0, 5), (42, 1, 4), (43, 1, 144), (44, 1, 1536), (45, 1, 13), (46, 0, 2), (47, 1, 12), (48, 1, 12), (49, 1, 21), (50, 0, 3), (51, 1, 400), (53, 1, 39), (54, 1, 39), (55, 0, 6), (56, 1, 7), (57, 1, 8), (62, 0, 4), (63, 1, 3), (64, 0, 7), (66, 0, 12), (67, 1, 16), (68, 1, 16), (69, 1, 64), (70, 1, 4), (71, 1, 16), (72, 1, 16), (73, 1, 64), (74, 1, 6), (75, 1, 400), (76, 1, 24), (77, 1, 441), (78, 1, 8), (79, 1, 8), (80, 4, 5500), (81, 1, 5500), (82, 1, 16), (83, 1, 96), (84, 1, 12), (85, 1, 12), (86, 1, 60), (87, 2, 3400), (88, 4, 3400), (89, 1, 8192), (90, 1, 12), (91, 1, 192), (92, 1, 12), (93, 1, 144), (94, 1, 6), (95, 1, 441), (96, 1, 40), (97, 1, 40), (98, 1, 40), (99, 1, 6), (100, 1, 6), (101, 1, 6), (102, 1, 12), (103, 3, 6400), (104, 2, 5292), (105, 2, 1)]
/-- the shape that never changes -/
def kW (h : KH) : Prop := (∀ q ∈ kWR, kR h q.1 q.2.1 = q.2.2) ∧ ∀ q ∈ kWK, kK h q.1 = q.2
theorem kW_same {h h' : KH} (e : h'.2.2 = h.2.2) (w : kW h) : kW h' := by
  have e1 : kR h' = kR h := by unfold kR; rw [e]
  have e2 : kK h' = kK h := by unfold kK; rw [e]
  exact ⟨fun q hq => by rw [e1]; exact w.1 q hq, fun q hq => by rw [e2]; exact w.2 q hq⟩
section KWF
variable {h : KH}
theorem wR_1_3 (w : kW h) : kR h 1 3 = 26 := w.1 (1, 3, 26) (List.mem_of_getElem? (i := 0) rfl)
theorem wR_1_4 (w : kW h) : kR h 1 4 = 28 := w.1 (1, 4, 28) (List.mem_of_getElem? (i := 1) rfl)
theorem wR_1_5 (w : kW h) : kR h 1 5 = 32 := w.1 (1, 5, 32) (List.mem_of_getElem? (i := 2) rfl)
theorem wR_1_6 (w : kW h) : kR h 1 6 = 35 := w.1 (1, 6, 35) (List.mem_of_getElem? (i := 3) rfl)
theorem wR_1_7 (w : kW h) : kR h 1 7 = 41 := w.1 (1, 7, 41) (List.mem_of_getElem? (i := 4) rfl)
theorem wR_1_8 (w : kW h) : kR h 1 8 = 46 := w.1 (1, 8, 46) (List.mem_of_getElem? (i := 5) rfl)
theorem wR_1_9 (w : kW h) : kR h 1 9 = 50 := w.1 (1, 9, 50) (List.mem_of_getElem? (i := 6) rfl)
theorem wR_1_10 (w : kW h) : kR h 1 10 = 55 := w.1 (1, 10, 55) (List.mem_of_getElem? (i := 7) rfl)
theorem wR_1_11 (w : kW h) : kR h 1 11 = 62 := w.1 (1, 11, 62) (List.mem_of_getElem? (i := 8) rfl)
theorem wR_1_12 (w : kW h) : kR h 1 12 = 64 := w.1 (1, 12, 64) (List.mem_of_getElem? (i := 9) rfl)
theorem wR_2_0 (w : kW h) : kR h 2 0 = 3 := w.1 (2, 0, 3) (List.mem_of_getElem? (i := 10) rfl)
theorem wR_2_1 (w : kW h) : kR h 2 1 = 4 := w.1 (2, 1, 4) (List.mem_of_getElem? (i := 11) rfl)
theorem wR_2_2 (w : kW h) : kR h 2 2 = 5 := w.1 (2, 2, 5) (List.mem_of_getElem? (i := 12) rfl)
theorem wR_2_3 (w : kW h) : kR h 2 3 = 6 := w.1 (2, 3, 6) (List.mem_of_getElem? (i := 13) rfl)
theorem wR_2_4 (w : kW h) : kR h 2 4 = 7 := w.1 (2, 4, 7) (List.mem_of_getElem? (i := 14) rfl)
theorem wR_2_11 (w : kW h) : kR h 2 11 = 8 := w.1 (2, 11, 8) (List.mem_of_getElem? (i := 15) rfl)
theorem wR_2_12 (w : kW h) : kR h 2 12 = 9 := w.1 (2, 12, 9) (List.mem_of_getElem? (i := 16) rfl)
theorem wR_2_13 (w : kW h) : kR h 2 13 = 10 := w.1 (2, 13, 10) (List.mem_of_getElem? (i := 17) rfl)
theorem wR_2_14 (w : kW h) : kR h 2 14 = 11 := w.1 (2, 14, 11) (List.mem_of_getElem? (i := 18) rfl)
theorem wR_2_15 (w : kW h) : kR h 2 15 = 12 := w.1 (2, 15, 12) (List.mem_of_getElem? (i := 19) rfl)
theorem wR_2_16 (w : kW h) : kR h 2 16 = 13 := w.1 (2, 16, 13) (List.mem_of_getElem? (i := 20) rfl)
theorem wR_14_0 (w : kW h) : kR h 14 0 = 15 := w.1 (14, 0, 15) (List.mem_of_getElem? (i := 21) rfl)
theorem wR_14_1 (w : kW h) : kR h 14 1 = 16 := w.1 (14, 1, 16) (List.mem_of_getElem? (i := 22) rfl)
theorem wR_14_2 (w : kW h) : kR h 14 2 = 17 := w.1 (14, 2, 17) (List.mem_of_getElem? (i := 23) rfl)
theorem wR_14_3 (w : kW h) : kR h 14 3 = 18 := w.1 (14, 3, 18) (List.mem_of_getElem? (i := 24) rfl)
theorem wR_14_4 (w : kW h) : kR h 14 4 = 19 := w.1 (14, 4, 19) (List.mem_of_getElem? (i := 25) rfl)
theorem wR_14_11 (w : kW h) : kR h 14 11 = 20 := w.1 (14, 11, 20) (List.mem_of_getElem? (i := 26) rfl)
theorem wR_14_12 (w : kW h) : kR h 14 12 = 21 := w.1 (14, 12, 21) (List.mem_of_getElem? (i := 27) rfl)
theorem wR_14_13 (w : kW h) : kR h 14 13 = 22 := w.1 (14, 13, 22) (List.mem_of_getElem? (i := 28) rfl)
theorem wR_14_14 (w : kW h) : kR h 14 14 = 23 := w.1 (14, 14, 23) (List.mem_of_getElem? (i := 29) rfl)
theorem wR_14_15 (w : kW h) : kR h 14 15 = 24 := w.1 (14, 15, 24) (List.mem_of_getElem? (i := 30) rfl)
theorem wR_14_16 (w : kW h) : kR h 14 16 = 25 := w.1 (14, 16, 25) (List.mem_of_getElem? (i := 31) rfl)
theorem wR_26_0 (w : kW h) : kR h 26 0 = 27 := w.1 (26, 0, 27) (List.mem_of_getElem? (i := 32) rfl)
theorem wR_28_0 (w : kW h) : kR h 28 0 = 29 := w.1 (28, 0, 29) (List.mem_of_getElem? (i := 33) rfl)
theorem wR_28_1 (w : kW h) : kR h 28 1 = 30 := w.1 (28, 1, 30) (List.mem_of_getElem? (i := 34) rfl)
theorem wR_28_2 (w : kW h) : kR h 28 2 = 31 := w.1 (28, 2, 31) (List.mem_of_getElem? (i := 35) rfl)
theorem wR_32_0 (w : kW h) : kR h 32 0 = 33 := w.1 (32, 0, 33) (List.mem_of_getElem? (i := 36) rfl)
theorem wR_32_1 (w : kW h) : kR h 32 1 = 34 := w.1 (32, 1, 34) (List.mem_of_getElem? (i := 37) rfl)
theorem wR_35_0 (w : kW h) : kR h 35 0 = 36 := w.1 (35, 0, 36) (List.mem_of_getElem? (i := 38) rfl)
theorem wR_35_1 (w : kW h) : kR h 35 1 = 37 := w.1 (35, 1, 37) (List.mem_of_getElem? (i := 39) rfl)
theorem wR_35_2 (w : kW h) : kR h 35 2 = 38 := w.1 (35, 2, 38) (List.mem_of_getElem? (i := 40) rfl)
theorem wR_35_3 (w : kW h) : kR h 35 3 = 39 := w.1 (35, 3, 39) (List.mem_of_getElem? (i := 41) rfl)
theorem wR_35_4 (w : kW h) : kR h 35 4 = 40 := w.1 (35, 4, 40) (List.mem_of_getElem? (i := 42) rfl)
theorem wR_41_0 (w : kW h) : kR h 41 0 = 42 := w.1 (41, 0, 42) (List.mem_of_getElem? (i := 43) rfl)
theorem wR_41_1 (w : kW h) : kR h 41 1 = 43 := w.1 (41, 1, 43) (List.mem_of_getElem? (i := 44) rfl)
theorem wR_41_2 (w : kW h) : kR h 41 2 = 44 := w.1 (41, 2, 44) (List.mem_of_getElem? (i := 45) rfl)
theorem wR_41_3 (w : kW h) : kR h 41 3 = 45 := w.1 (41, 3, 45) (List.mem_of_getElem? (i := 46) rfl)
theorem wR_46_0 (w : kW h) : kR h 46 0 = 47 := w.1 (46, 0, 47) (List.mem_of_getElem? (i := 47) rfl)
theorem wR_46_1 (w : kW h) : kR h 46 1 = 48 := w.1 (46, 1, 48) (List.mem_of_getElem? (i := 48) rfl)
theorem wR_46_2 (w : kW h) : kR h 46 2 = 49 := w.1 (46, 2, 49) (List.mem_of_getElem? (i := 49) rfl)
theorem wR_50_0 (w : kW h) : kR h 50 0 = 41 := w.1 (50, 0, 41) (List.mem_of_getElem? (i := 50) rfl)
theorem wR_50_1 (w : kW h) : kR h 50 1 = 51 := w.1 (50, 1, 51) (List.mem_of_getElem? (i := 51) rfl)
theorem wR_50_3 (w : kW h) : kR h 50 3 = 53 := w.1 (50, 3, 53) (List.mem_of_getElem? (i := 52) rfl)
theorem wR_50_4 (w : kW h) : kR h 50 4 = 54 := w.1 (50, 4, 54) (List.mem_of_getElem? (i := 53) rfl)
theorem wR_55_0 (w : kW h) : kR h 55 0 = 41 := w.1 (55, 0, 41) (List.mem_of_getElem? (i := 54) rfl)
theorem wR_55_2 (w : kW h) : kR h 55 2 = 56 := w.1 (55, 2, 56) (List.mem_of_getElem? (i := 55) rfl)
theorem wR_55_3 (w : kW h) : kR h 55 3 = 57 := w.1 (55, 3, 57) (List.mem_of_getElem? (i := 56) rfl)
theorem wR_62_0 (w : kW h) : kR h 62 0 = 28 := w.1 (62, 0, 28) (List.mem_of_getElem? (i := 57) rfl)
theorem wR_62_1 (w : kW h) : kR h 62 1 = 35 := w.1 (62, 1, 35) (List.mem_of_getElem? (i := 58) rfl)
theorem wR_62_2 (w : kW h) : kR h 62 2 = 50 := w.1 (62, 2, 50) (List.mem_of_getElem? (i := 59) rfl)
theorem wR_62_3 (w : kW h) : kR h 62 3 = 55 := w.1 (62, 3, 55) (List.mem_of_getElem? (i := 60) rfl)
theorem wR_62_10 (w : kW h) : kR h 62 10 = 63 := w.1 (62, 10, 63) (List.mem_of_getElem? (i := 61) rfl)
theorem wR_66_3 (w : kW h) : kR h 66 3 = 67 := w.1 (66, 3, 67) (List.mem_of_getElem? (i := 62) rfl)
theorem wR_66_4 (w : kW h) : kR h 66 4 = 68 := w.1 (66, 4, 68) (List.mem_of_getElem? (i := 63) rfl)
theorem wR_66_5 (w : kW h) : kR h 66 5 = 69 := w.1 (66, 5, 69) (List.mem_of_getElem? (i := 64) rfl)
theorem wR_66_7 (w : kW h) : kR h 66 7 = 70 := w.1 (66, 7, 70) (List.mem_of_getElem? (i := 65) rfl)
theorem wR_66_10 (w : kW h) : kR h 66 10 = 71 := w.1 (66, 10, 71) (List.mem_of_getElem? (i := 66) rfl)
theorem wR_66_11 (w : kW h) : kR h 66 11 = 72 := w.1 (66, 11, 72) (List.mem_of_getElem? (i := 67) rfl)
theorem wR_66_12 (w : kW h) : kR h 66 12 = 73 := w.1 (66, 12, 73) (List.mem_of_getElem? (i := 68) rfl)
theorem wR_66_13 (w : kW h) : kR h 66 13 = 74 := w.1 (66, 13, 74) (List.mem_of_getElem? (i := 69) rfl)
theorem wR_66_14 (w : kW h) : kR h 66 14 = 75 := w.1 (66, 14, 75) (List.mem_of_getElem? (i := 70) rfl)
theorem wR_66_20 (w : kW h) : kR h 66 20 = 76 := w.1 (66, 20, 76) (List.mem_of_getElem? (i := 71) rfl)
theorem wR_66_22 (w : kW h) : kR h 66 22 = 77 := w.1 (66, 22, 77) (List.mem_of_getElem? (i := 72) rfl)
theorem wR_66_23 (w : kW h) : kR h 66 23 = 78 := w.1 (66, 23, 78) (List.mem_of_getElem? (i := 73) rfl)
theorem wR_66_24 (w : kW h) : kR h 66 24 = 79 := w.1 (66, 24, 79) (List.mem_of_getElem? (i := 74) rfl)
theorem wR_66_25 (w : kW h) : kR h 66 25 = 80 := w.1 (66, 25, 80) (List.mem_of_getElem? (i := 75) rfl)
theorem wR_66_26 (w : kW h) : kR h 66 26 = 81 := w.1 (66, 26, 81) (List.mem_of_getElem? (i := 76) rfl)
theorem wR_66_29 (w : kW h) : kR h 66 29 = 82 := w.1 (66, 29, 82) (List.mem_of_getElem? (i := 77) rfl)
theorem wR_66_30 (w : kW h) : kR h 66 30 = 83 := w.1 (66, 30, 83) (List.mem_of_getElem? (i := 78) rfl)
theorem wR_66_32 (w : kW h) : kR h 66 32 = 84 := w.1 (66, 32, 84) (List.mem_of_getElem? (i := 79) rfl)
theorem wR_66_33 (w : kW h) : kR h 66 33 = 85 := w.1 (66, 33, 85) (List.mem_of_getElem? (i := 80) rfl)
theorem wR_66_34 (w : kW h) : kR h 66 34 = 86 := w.1 (66, 34, 86) (List.mem_of_getElem? (i := 81) rfl)
theorem wR_66_38 (w : kW h) : kR h 66 38 = 87 := w.1 (66, 38, 87) (List.mem_of_getElem? (i := 82) rfl)
theorem wR_66_39 (w : kW h) : kR h 66 39 = 88 := w.1 (66, 39, 88) (List.mem_of_getElem? (i := 83) rfl)
theorem wR_66_40 (w : kW h) : kR h 66 40 = 89 := w.1 (66, 40, 89) (List.mem_of_getElem? (i := 84) rfl)
theorem wR_66_41 (w : kW h) : kR h 66 41 = 90 := w.1 (66, 41, 90) (List.mem_of_getElem? (i := 85) rfl)
theorem wR_66_42 (w : kW h) : kR h 66 42 = 91 := w.1 (66, 42, 91) (List.mem_of_getElem? (i := 86) rfl)
theorem wR_66_43 (w : kW h) : kR h 66 43 = 92 := w.1 (66, 43, 92) (List.mem_of_getElem? (i := 87) rfl)
theorem wR_66_44 (w : kW h) : kR h 66 44 = 93 := w.1 (66, 44, 93) (List.mem_of_getElem? (i := 88) rfl)
theorem wR_66_51 (w : kW h) : kR h 66 51 = 94 := w.1 (66, 51, 94) (List.mem_of_getElem? (i := 89) rfl)
theorem wR_66_55 (w : kW h) : kR h 66 55 = 95 := w.1 (66, 55, 95) (List.mem_of_getElem? (i := 90) rfl)
theorem wR_66_59 (w : kW h) : kR h 66 59 = 96 := w.1 (66, 59, 96) (List.mem_of_getElem? (i := 91) rfl)
theorem wR_66_60 (w : kW h) : kR h 66 60 = 97 := w.1 (66, 60, 97) (List.mem_of_getElem? (i := 92) rfl)
theorem wR_66_61 (w : kW h) : kR h 66 61 = 98 := w.1 (66, 61, 98) (List.mem_of_getElem? (i := 93) rfl)
theorem wR_66_66 (w : kW h) : kR h 66 66 = 99 := w.1 (66, 66, 99) (List.mem_of_getElem? (i := 94) rfl)
theorem wR_66_70 (w : kW h) : kR h 66 70 = 100 := w.1 (66, 70, 100) (List.mem_of_getElem? (i := 95) rfl)
theorem wR_66_74 (w : kW h) : kR h 66 74 = 101 := w.1 (66, 74, 101) (List.mem_of_getElem? (i := 96) rfl)
theorem wR_66_77 (w : kW h) : kR h 66 77 = 102 := w.1 (66, 77, 102) (List.mem_of_getElem? (i := 97) rfl)
theorem wR_66_81 (w : kW h) : kR h 66 81 = 103 := w.1 (66, 81, 103) (List.mem_of_getElem? (i := 98) rfl)
theorem wR_66_83 (w : kW h) : kR h 66 83 = 104 := w.1 (66, 83, 104) (List.mem_of_getElem? (i := 99) rfl)
theorem wK_1 (w : kW h) : kK h 1 = (0, 11) := w.2 (1, 0, 11) (List.mem_of_getElem? (i := 0) rfl)
theorem wK_2 (w : kW h) : kK h 2 = (0, 1) := w.2 (2, 0, 1) (List.mem_of_getElem? (i := 1) rfl)
theorem wK_3 (w : kW h) : kK h 3 = (1, 26) := w.2 (3, 1, 26) (List.mem_of_getElem? (i := 2) rfl)
theorem wK_4 (w : kW h) : kK h 4 = (1, 16) := w.2 (4, 1, 16) (List.mem_of_getElem? (i := 3) rfl)
theorem wK_5 (w : kW h) : kK h 5 = (1, 16) := w.2 (5, 1, 16) (List.mem_of_getElem? (i := 4) rfl)
theorem wK_6 (w : kW h) : kK h 6 = (1, 64) := w.2 (6, 1, 64) (List.mem_of_getElem? (i := 5) rfl)
theorem wK_7 (w : kW h) : kK h 7 = (1, 4) := w.2 (7, 1, 4) (List.mem_of_getElem? (i := 6) rfl)
theorem wK_8 (w : kW h) : kK h 8 = (1, 64) := w.2 (8, 1, 64) (List.mem_of_getElem? (i := 7) rfl)
theorem wK_9 (w : kW h) : kK h 9 = (1, 4) := w.2 (9, 1, 4) (List.mem_of_getElem? (i := 8) rfl)
theorem wK_10 (w : kW h) : kK h 10 = (2, 64) := w.2 (10, 2, 64) (List.mem_of_getElem? (i := 9) rfl)
theorem wK_11 (w : kW h) : kK h 11 = (2, 4) := w.2 (11, 2, 4) (List.mem_of_getElem? (i := 10) rfl)
theorem wK_12 (w : kW h) : kK h 12 = (2, 64) := w.2 (12, 2, 64) (List.mem_of_getElem? (i := 11) rfl)
theorem wK_13 (w : kW h) : kK h 13 = (2, 4) := w.2 (13, 2, 4) (List.mem_of_getElem? (i := 12) rfl)
theorem wK_14 (w : kW h) : kK h 14 = (0, 1) := w.2 (14, 0, 1) (List.mem_of_getElem? (i := 13) rfl)
theorem wK_15 (w : kW h) : kK h 15 = (1, 26) := w.2 (15, 1, 26) (List.mem_of_getElem? (i := 14) rfl)
theorem wK_16 (w : kW h) : kK h 16 = (1, 16) := w.2 (16, 1, 16) (List.mem_of_getElem? (i := 15) rfl)
theorem wK_17 (w : kW h) : kK h 17 = (1, 16) := w.2 (17, 1, 16) (List.mem_of_getElem? (i := 16) rfl)
theorem wK_18 (w : kW h) : kK h 18 = (1, 64) := w.2 (18, 1, 64) (List.mem_of_getElem? (i := 17) rfl)
theorem wK_19 (w : kW h) : kK h 19 = (1, 4) := w.2 (19, 1, 4) (List.mem_of_getElem? (i := 18) rfl)
theorem wK_20 (w : kW h) : kK h 20 = (1, 64) := w.2 (20, 1, 64) (List.mem_of_getElem? (i := 19) rfl)
theorem wK_21 (w : kW h) : kK h 21 = (1, 4) := w.2 (21, 1, 4) (List.mem_of_getElem? (i := 20) rfl)
theorem wK_22 (w : kW h) : kK h 22 = (2, 64) := w.2 (22, 2, 64) (List.mem_of_getElem? (i := 21) rfl)
theorem wK_23 (w : kW h) : kK h 23 = (2, 4) := w.2 (23, 2, 4) (List.mem_of_getElem? (i := 22) rfl)
theorem wK_24 (w : kW h) : kK h 24 = (2, 64) := w.2 (24, 2, 64) (List.mem_of_getElem? (i := 23) rfl)
theorem wK_25 (w : kW h) : kK h 25 = (2, 4) := w.2 (25, 2, 4) (List.mem_of_getElem? (i := 24) rfl)
theorem wK_26 (w : kW h) : kK h 26 = (0, 9) := w.2 (26, 0, 9) (List.mem_of_getElem? (i := 25) rfl)
theorem wK_27 (w : kW h) : kK h 27 = (1, 400) := w.2 (27, 1, 400) (List.mem_of_getElem? (i := 26) rfl)
theorem wK_28 (w : kW h) : kK h 28 = (0, 10) := w.2 (28, 0, 10) (List.mem_of_getElem? (i := 27) rfl)
theorem wK_29 (w : kW h) : kK h 29 = (2, 400) := w.2 (29, 2, 400) (List.mem_of_getElem? (i := 28) rfl)
theorem wK_30 (w : kW h) : kK h 30 = (2, 20) := w.2 (30, 2, 20) (List.mem_of_getElem? (i := 29) rfl)
theorem wK_31 (w : kW h) : kK h 31 = (1, 21) := w.2 (31, 1, 21) (List.mem_of_getElem? (i := 30) rfl)
theorem wK_32 (w : kW h) : kK h 32 = (0, 0) := w.2 (32, 0, 0) (List.mem_of_getElem? (i := 31) rfl)
theorem wK_33 (w : kW h) : kK h 33 = (2, 3264) := w.2 (33, 2, 3264) (List.mem_of_getElem? (i := 32) rfl)
theorem wK_34 (w : kW h) : kK h 34 = (1, 4096) := w.2 (34, 1, 4096) (List.mem_of_getElem? (i := 33) rfl)
theorem wK_35 (w : kW h) : kK h 35 = (0, 8) := w.2 (35, 0, 8) (List.mem_of_getElem? (i := 34) rfl)
theorem wK_36 (w : kW h) : kK h 36 = (2, 16) := w.2 (36, 2, 16) (List.mem_of_getElem? (i := 35) rfl)
theorem wK_37 (w : kW h) : kK h 37 = (2, 12) := w.2 (37, 2, 12) (List.mem_of_getElem? (i := 36) rfl)
theorem wK_38 (w : kW h) : kK h 38 = (2, 12) := w.2 (38, 2, 12) (List.mem_of_getElem? (i := 37) rfl)
theorem wK_39 (w : kW h) : kK h 39 = (1, 12) := w.2 (39, 1, 12) (List.mem_of_getElem? (i := 38) rfl)
theorem wK_40 (w : kW h) : kK h 40 = (1, 192) := w.2 (40, 1, 192) (List.mem_of_getElem? (i := 39) rfl)
theorem wK_41 (w : kW h) : kK h 41 = (0, 5) := w.2 (41, 0, 5) (List.mem_of_getElem? (i := 40) rfl)
theorem wK_42 (w : kW h) : kK h 42 = (1, 4) := w.2 (42, 1, 4) (List.mem_of_getElem? (i := 41) rfl)
theorem wK_43 (w : kW h) : kK h 43 = (1, 144) := w.2 (43, 1, 144) (List.mem_of_getElem? (i := 42) rfl)
theorem wK_44 (w : kW h) : kK h 44 = (1, 1536) := w.2 (44, 1, 1536) (List.mem_of_getElem? (i := 43) rfl)
theorem wK_45 (w : kW h) : kK h 45 = (1, 13) := w.2 (45, 1, 13) (List.mem_of_getElem? (i := 44) rfl)
theorem wK_46 (w : kW h) : kK h 46 = (0, 2) := w.2 (46, 0, 2) (List.mem_of_getElem? (i := 45) rfl)
theorem wK_47 (w : kW h) : kK h 47 = (1, 12) := w.2 (47, 1, 12) (List.mem_of_getElem? (i := 46) rfl)
theorem wK_48 (w : kW h) : kK h 48 = (1, 12) := w.2 (48, 1, 12) (List.mem_of_getElem? (i := 47) rfl)
theorem wK_49 (w : kW h) : kK h 49 = (1, 21) := w.2 (49, 1, 21) (List.mem_of_getElem? (i := 48) rfl)
theorem wK_50 (w : kW h) : kK h 50 = (0, 3) := w.2 (50, 0, 3) (List.mem_of_getElem? (i := 49) rfl)
theorem wK_51 (w : kW h) : kK h 51 = (1, 400) := w.2 (51, 1, 400) (List.mem_of_getElem? (i := 50) rfl)
theorem wK_53 (w : kW h) : kK h 53 = (1, 39) := w.2 (53, 1, 39) (List.mem_of_getElem? (i := 51) rfl)
theorem wK_54 (w : kW h) : kK h 54 = (1, 39) := w.2 (54, 1, 39) (List.mem_of_getElem? (i := 52) rfl)
theorem wK_55 (w : kW h) : kK h 55 = (0, 6) := w.2 (55, 0, 6) (List.mem_of_getElem? (i := 53) rfl)
theorem wK_56 (w : kW h) : kK h 56 = (1, 7) := w.2 (56, 1, 7) (List.mem_of_getElem? (i := 54) rfl)
theorem wK_57 (w : kW h) : kK h 57 = (1, 8) := w.2 (57, 1, 8) (List.mem_of_getElem? (i := 55) rfl)
theorem wK_62 (w : kW h) : kK h 62 = (0, 4) := w.2 (62, 0, 4) (List.mem_of_getElem? (i := 56) rfl)
theorem wK_63 (w : kW h) : kK h 63 = (1, 3) := w.2 (63, 1, 3) (List.mem_of_getElem? (i := 57) rfl)
theorem wK_64 (w : kW h) : kK h 64 = (0, 7) := w.2 (64, 0, 7) (List.mem_of_getElem? (i := 58) rfl)
theorem wK_66 (w : kW h) : kK h 66 = (0, 12) := w.2 (66, 0, 12) (List.mem_of_getElem? (i := 59) rfl)
theorem wK_67 (w : kW h) : kK h 67 = (1, 16) := w.2 (67, 1, 16) (List.mem_of_getElem? (i := 60) rfl)
theorem wK_68 (w : kW h) : kK h 68 = (1, 16) := w.2 (68, 1, 16) (List.mem_of_getElem? (i := 61) rfl)
theorem wK_69 (w : kW h) : kK h 69 = (1, 64) := w.2 (69, 1, 64) (List.mem_of_getElem? (i := 62) rfl)
theorem wK_70 (w : kW h) : kK h 70 = (1, 4) := w.2 (70, 1, 4) (List.mem_of_getElem? (i := 63) rfl)
theorem wK_71 (w : kW h) : kK h 71 = (1, 16) := w.2 (71, 1, 16) (List.mem_of_getElem? (i := 64) rfl)
theorem wK_72 (w : kW h) : kK h 72 = (1, 16) := w.2 (72, 1, 16) (List.mem_of_getElem? (i := 65) rfl)
theorem wK_73 (w : kW h) : kK h 73 = (1, 64) := w.2 (73, 1, 64) (List.mem_of_getElem? (i := 66) rfl)
theorem wK_74 (w : kW h) : kK h 74 = (1, 6) := w.2 (74, 1, 6) (List.mem_of_getElem? (i := 67) rfl)
theorem wK_75 (w : kW h) : kK h 75 = (1, 400) := w.2 (75, 1, 400) (List.mem_of_getElem? (i := 68) rfl)
theorem wK_76 (w : kW h) : kK h 76 = (1, 24) := w.2 (76, 1, 24) (List.mem_of_getElem? (i := 69) rfl)
theorem wK_77 (w : kW h) : kK h 77 = (1, 441) := w.2 (77, 1, 441) (List.mem_of_getElem? (i := 70) rfl)
theorem wK_78 (w : kW h) : kK h 78 = (1, 8) := w.2 (78, 1, 8) (List.mem_of_getElem? (i := 71) rfl)
theorem wK_79 (w : kW h) : kK h 79 = (1, 8) := w.2 (79, 1, 8) (List.mem_of_getElem? (i := 72) rfl)
theorem wK_80 (w : kW h) : kK h 80 = (4, 5500) := w.2 (80, 4, 5500) (List.mem_of_getElem? (i := 73) rfl)
theorem wK_81 (w : kW h) : kK h 81 = (1, 5500) := w.2 (81, 1, 5500) (List.mem_of_getElem? (i := 74) rfl)
theorem wK_82 (w : kW h) : kK h 82 = (1, 16) := w.2 (82, 1, 16) (List.mem_of_getElem? (i := 75) rfl)
theorem wK_83 (w : kW h) : kK h 83 = (1, 96) := w.2 (83, 1, 96) (List.mem_of_getElem? (i := 76) rfl)
theorem wK_84 (w : kW h) : kK h 84 = (1, 12) := w.2 (84, 1, 12) (List.mem_of_getElem? (i := 77) rfl)
theorem wK_85 (w : kW h) : kK h 85 = (1, 12) := w.2 (85, 1, 12) (List.mem_of_getElem? (i := 78) rfl)
theorem wK_86 (w : kW h) : kK h 86 = (1, 60) := w.2 (86, 1, 60) (List.mem_of_getElem? (i := 79) rfl)
theorem wK_87 (w : kW h) : kK h 87 = (2, 3400) := w.2 (87, 2, 3400) (List.mem_of_getElem? (i := 80) rfl)
theorem wK_88 (w : kW h) : kK h 88 = (4, 3400) := w.2 (88, 4, 3400) (List.mem_of_getElem? (i := 81) rfl)
theorem wK_89 (w : kW h) : kK h 89 = (1, 8192) := w.2 (89, 1, 8192) (List.mem_of_getElem? (i := 82) rfl)
theorem wK_90 (w : kW h) : kK h 90 = (1, 12) := w.2 (90, 1, 12) (List.mem_of_getElem? (i := 83) rfl)
theorem wK_91 (w : kW h) : kK h 91 = (1, 192) := w.2 (91, 1, 192) (List.mem_of_getElem? (i := 84) rfl)
theorem wK_92 (w : kW h) : kK h 92 = (1, 12) := w.2 (92, 1, 12) (List.mem_of_getElem? (i := 85) rfl)
theorem wK_93 (w : kW h) : kK h 93 = (1, 144) := w.2 (93, 1, 144) (List.mem_of_getElem? (i := 86) rfl)
theorem wK_94 (w : kW h) : kK h 94 = (1, 6) := w.2 (94, 1, 6) (List.mem_of_getElem? (i := 87) rfl)
theorem wK_95 (w : kW h) : kK h 95 = (1, 441) := w.2 (95, 1, 441) (List.mem_of_getElem? (i := 88) rfl)
theorem wK_96 (w : kW h) : kK h 96 = (1, 40) := w.2 (96, 1, 40) (List.mem_of_getElem? (i := 89) rfl)
theorem wK_97 (w : kW h) : kK h 97 = (1, 40) := w.2 (97, 1, 40) (List.mem_of_getElem? (i := 90) rfl)
theorem wK_98 (w : kW h) : kK h 98 = (1, 40) := w.2 (98, 1, 40) (List.mem_of_getElem? (i := 91) rfl)
theorem wK_99 (w : kW h) : kK h 99 = (1, 6) := w.2 (99, 1, 6) (List.mem_of_getElem? (i := 92) rfl)
theorem wK_100 (w : kW h) : kK h 100 = (1, 6) := w.2 (100, 1, 6) (List.mem_of_getElem? (i := 93) rfl)
theorem wK_101 (w : kW h) : kK h 101 = (1, 6) := w.2 (101, 1, 6) (List.mem_of_getElem? (i := 94) rfl)
theorem wK_102 (w : kW h) : kK h 102 = (1, 12) := w.2 (102, 1, 12) (List.mem_of_getElem? (i := 95) rfl)
theorem wK_103 (w : kW h) : kK h 103 = (3, 6400) := w.2 (103, 3, 6400) (List.mem_of_getElem? (i := 96) rfl)
theorem wK_104 (w : kW h) : kK h 104 = (2, 5292) := w.2 (104, 2, 5292) (List.mem_of_getElem? (i := 97) rfl)
theorem wK_105 (w : kW h) : kK h 105 = (2, 1) := w.2 (105, 2, 1) (List.mem_of_getElem? (i := 98) rfl)
def isG (g : Nat) : Prop := g = 2 ∨ g = 14
theorem gK (w : kW h) {g : Nat} (hg : isG g) : kK h g = (0, 1) := hg.elim (fun e => by subst e; exact wK_2 w) (fun e => by subst e; exact wK_14 w)
theorem gR_0 (w : kW h) {g : Nat} (hg : isG g) : kR h g 0 = g + 1 := hg.elim (fun e => by subst e; exact wR_2_0 w) (fun e => by subst e; exact wR_14_0 w)
theorem gK_1 (w : kW h) {g : Nat} (hg : isG g) : kK h (g + 1) = (1, 26) := hg.elim (fun e => by subst e; exact wK_3 w) (fun e => by subst e; exact wK_15 w)
theorem gR_1 (w : kW h) {g : Nat} (hg : isG g) : kR h g 1 = g + 2 := hg.elim (fun e => by subst e; exact wR_2_1 w) (fun e => by subst e; exact wR_14_1 w)
theorem gK_2 (w : kW h) {g : Nat} (hg : isG g) : kK h (g + 2) = (1, 16) := hg.elim (fun e => by subst e; exact wK_4 w) (fun e => by subst e; exact wK_16 w)
theorem gR_2 (w : kW h) {g : Nat} (hg : isG g) : kR h g 2 = g + 3 := hg.elim (fun e => by subst e; exact wR_2_2 w) (fun e => by subst e; exact wR_14_2 w)
theorem gK_3 (w : kW h) {g : Nat} (hg : isG g) : kK h (g + 3) = (1, 16) := hg.elim (fun e => by subst e; exact wK_5 w) (fun e => by subst e; exact wK_17 w)
theorem gR_3 (w : kW h) {g : Nat} (hg : isG g) : kR h g 3 = g + 4 := hg.elim (fun e => by subst e; exact wR_2_3 w) (fun e => by subst e; exact wR_14_3 w)
theorem gK_4 (w : kW h) {g : Nat} (hg : isG g) : kK h (g + 4) = (1, 64) := hg.elim (fun e => by subst e; exact wK_6 w) (fun e => by subst e; exact wK_18 w)
theorem gR_4 (w : kW h) {g : Nat} (hg : isG g) : kR h g 4 = g + 5 := hg.elim (fun e => by subst e; exact wR_2_4 w) (fun e => by subst e; exact wR_14_4 w)
theorem gK_5 (w : kW h) {g : Nat} (hg : isG g) : kK h (g + 5) = (1, 4) := hg.elim (fun e => by subst e; exact wK_7 w) (fun e => by subst e; exact wK_19 w)
theorem gR_11 (w : kW h) {g : Nat} (hg : isG g) : kR h g 11 = g + 6 := hg.elim (fun e => by subst e; exact wR_2_11 w) (fun e => by subst e; exact wR_14_11 w)
theorem gK_6 (w : kW h) {g : Nat} (hg : isG g) : kK h (g + 6) = (1, 64) := hg.elim (fun e => by subst e; exact wK_8 w) (fun e => by subst e; exact wK_20 w)
theorem gR_12 (w : kW h) {g : Nat} (hg : isG g) : kR h g 12 = g + 7 := hg.elim (fun e => by subst e; exact wR_2_12 w) (fun e => by subst e; exact wR_14_12 w)
theorem gK_7 (w : kW h) {g : Nat} (hg : isG g) : kK h (g + 7) = (1, 4) := hg.elim (fun e => by subst e; exact wK_9 w) (fun e => by subst e; exact wK_21 w)
theorem gR_13 (w : kW h) {g : Nat} (hg : isG g) : kR h g 13 = g + 8 := hg.elim (fun e => by subst e; exact wR_2_13 w) (fun e => by subst e; exact wR_14_13 w)
theorem gK_8 (w : kW h) {g : Nat} (hg : isG g) : kK h (g + 8) = (2, 64) := hg.elim (fun e => by subst e; exact wK_10 w) (fun e => by subst e; exact wK_22 w)
theorem gR_14 (w : kW h) {g : Nat} (hg : isG g) : kR h g 14 = g + 9 := hg.elim (fun e => by subst e; exact wR_2_14 w) (fun e => by subst e; exact wR_14_14 w)
theorem gK_9 (w : kW h) {g : Nat} (hg : isG g) : kK h (g + 9) = (2, 4) := hg.elim (fun e => by subst e; exact wK_11 w) (fun e => by subst e; exact wK_23 w)
theorem gR_15 (w : kW h) {g : Nat} (hg : isG g) : kR h g 15 = g + 10 := hg.elim (fun e => by subst e; exact wR_2_15 w) (fun e => by subst e; exact wR_14_15 w)
theorem gK_10 (w : kW h) {g : Nat} (hg : isG g) : kK h (g + 10) = (2, 64) := hg.elim (fun e => by subst e; exact wK_12 w) (fun e => by subst e; exact wK_24 w)
theorem gR_16 (w : kW h) {g : Nat} (hg : isG g) : kR h g 16 = g + 11 := hg.elim (fun e => by subst e; exact wR_2_16 w) (fun e => by subst e; exact wR_14_16 w)
theorem gK_11 (w : kW h) {g : Nat} (hg : isG g) : kK h (g + 11) = (2, 4) := hg.elim (fun e => by subst e; exact wK_13 w) (fun e => by subst e; exact wK_25 w)
end KWF

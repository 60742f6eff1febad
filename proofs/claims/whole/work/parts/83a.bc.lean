/-! how many bits a set of sixteen has -/
def bc5 (m : Nat) : Nat :=
  let a := m - (m / 2 &&& 1431655765)
  let b := (a &&& 858993459) + (a / 4 &&& 858993459)
  let c := b + b / 16 &&& 252645135
  let d := c + c / 256
  (d + d / 65536) &&& 63
def pcn (m : Nat) : Nat → Nat
  | 0 => 0
  | k + 1 => m % 2 + pcn (m / 2) k
def allb (p : Nat → Bool) : Nat → Nat → Bool
  | 0, b => p b
  | k + 1, b => allb p k (2 * b) && allb p k (2 * b + 1)
theorem allb_ok (p : Nat → Bool) : ∀ k b, allb p k b = true → ∀ m, m / 2 ^ k = b → p m = true
  | 0, b, h, m, hm => by simp at hm; subst hm; exact h
  | k + 1, b, h, m, hm => by
    simp only [allb, Bool.and_eq_true] at h
    have h2 : m / 2 ^ k / 2 = b := by rw [Nat.div_div_eq_div_mul, ← Nat.pow_succ]; exact hm
    rcases Nat.mod_two_eq_zero_or_one (m / 2 ^ k) with q | q
    · exact allb_ok p k (2 * b) h.1 m (by omega)
    · exact allb_ok p k (2 * b + 1) h.2 m (by omega)
theorem bc5_0 : allb (fun m => Nat.beq (bc5 m) (pcn m 16)) 12 0 = true := by decide +kernel
theorem bc5_1 : allb (fun m => Nat.beq (bc5 m) (pcn m 16)) 12 1 = true := by decide +kernel
theorem bc5_2 : allb (fun m => Nat.beq (bc5 m) (pcn m 16)) 12 2 = true := by decide +kernel
theorem bc5_3 : allb (fun m => Nat.beq (bc5 m) (pcn m 16)) 12 3 = true := by decide +kernel
theorem bc5_4 : allb (fun m => Nat.beq (bc5 m) (pcn m 16)) 12 4 = true := by decide +kernel
theorem bc5_5 : allb (fun m => Nat.beq (bc5 m) (pcn m 16)) 12 5 = true := by decide +kernel
theorem bc5_6 : allb (fun m => Nat.beq (bc5 m) (pcn m 16)) 12 6 = true := by decide +kernel
theorem bc5_7 : allb (fun m => Nat.beq (bc5 m) (pcn m 16)) 12 7 = true := by decide +kernel
theorem bc5_8 : allb (fun m => Nat.beq (bc5 m) (pcn m 16)) 12 8 = true := by decide +kernel
theorem bc5_9 : allb (fun m => Nat.beq (bc5 m) (pcn m 16)) 12 9 = true := by decide +kernel
theorem bc5_10 : allb (fun m => Nat.beq (bc5 m) (pcn m 16)) 12 10 = true := by decide +kernel
theorem bc5_11 : allb (fun m => Nat.beq (bc5 m) (pcn m 16)) 12 11 = true := by decide +kernel
theorem bc5_12 : allb (fun m => Nat.beq (bc5 m) (pcn m 16)) 12 12 = true := by decide +kernel
theorem bc5_13 : allb (fun m => Nat.beq (bc5 m) (pcn m 16)) 12 13 = true := by decide +kernel
theorem bc5_14 : allb (fun m => Nat.beq (bc5 m) (pcn m 16)) 12 14 = true := by decide +kernel
theorem bc5_15 : allb (fun m => Nat.beq (bc5 m) (pcn m 16)) 12 15 = true := by decide +kernel

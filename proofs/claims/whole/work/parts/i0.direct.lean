/-! calls that throw nothing -/
section OP
variable {r : Nat} {h h' : KH} {t : List Nat} {fp : Int32} {B : GB} {nn : Nat} {P : List (List Nat)} {C : CL} {A : List (List Nat)} {ls : LSn} {lk wr : Nat} {T : TN} {sd : List Nat}
theorem o_feed {a b c d e : Int32} (hr : 28 ≤ r) (K : CI h t fp B nn P C A ls lk wr T sd) (W : WFA t B nn P C A ls T sd) : OPd r h (t, fp, B, nn, P, C, A, ls, lk, wr, T, sd) (if t.length ≤ 380 then nI (t.length + 20) else -nI 1) (fdT t a b c d e, fp, B, nn, P, C, A, ls, lk, wr, T, sd) yX11_feed [.ref 1, .int a, .int b, .int c, .int d, .int e] yX12_feed [.ref 66, .int a, .int b, .int c, .int d, .int e] := by
  refine ⟨fun Q H => ?_, fun h1 K1 w1 Q H => ?_⟩
  · refine cq_feed (by omega) K W (fun h' K' f' => ?_)
    exact H h' K' ⟨W.1, fdT_ok W.2.1.1 W.2.1.2 a b c d e, W.2.2⟩ (FL_of f')
  · refine mq_feed (by omega) w1 K1 W.2.1.1 (fun h' v K' f' o' => ?_)
    rw [o'.1]; exact H h' K' f'
theorem o_fault (hr : 28 ≤ r) (K : CI h t fp B nn P C A ls lk wr T sd) (W : WFA t B nn P C A ls T sd) : OPd r h (t, fp, B, nn, P, C, A, ls, lk, wr, T, sd) fp (t, fp, B, nn, P, C, A, ls, lk, wr, T, sd) yX11_fault [.ref 1] yX12_fault [.ref 66] := by
  refine ⟨fun Q H => ?_, fun h1 K1 w1 Q H => ?_⟩
  · refine cq_fault K (fun h' K' f' => ?_)
    exact H h' K' W (FL_of f')
  · refine mq_fault w1 K1 (fun h' v K' f' o' => ?_)
    rw [o'.1]; exact H h' K' f'
theorem o_anew (hr : 28 ≤ r) (K : CI h t fp B nn P C A ls lk wr T sd) (W : WFA t B nn P C A ls T sd) : OPd r h (t, fp, B, nn, P, C, A, ls, lk, wr, T, sd) (nI A.length) (t, fp, B, nn, pS0 B, cS0, aS0 B, none, 0, 0, [], sd) yX11_anew [.ref 1] yX12_anew [.ref 66] := by
  have hB : bok B nn := W.1.2.2.2.2.2
  refine ⟨fun Q H => ?_, fun h1 K1 w1 Q H => ?_⟩
  · refine cq_anew (by omega) K (fun h' K' f' => ?_)
    exact H h' K' (W_new W W.2.1 hB) (FL_of f')
  · refine mq_anew (by omega) w1 hB K1 (fun h' v K' f' o' => ?_)
    rw [o'.1]; exact H h' K' f'
theorem o_say (hr : 28 ≤ r) (K : CI h t fp B nn P C A ls lk wr T sd) (W : WFA t B nn P C A ls T sd) : OPd r h (t, fp, B, nn, P, C, A, ls, lk, wr, T, sd) (nI (alT B P C (laN B P C) C.length).length) (t, fp, B, nn, P, C, A, ls, lk, wr, T, alT B P C (laN B P C) C.length) yX11_say [.ref 1] yX12_say [.ref 66] := by
  refine ⟨fun Q H => ?_, fun h1 K1 w1 Q H => ?_⟩
  · refine cq_say (by omega) K W (fun h' K' f' => ?_)
    exact H h' K' (W_say W) (FL_of f')
  · refine mq_say (by omega) w1 K1 W (fun h' v K' f' o' => ?_)
    rw [o'.1]; exact H h' K' f'
theorem sd_l {sd : List Nat} {i : Int32} : ∃ v, rSaid sd i = .inl v := by
  unfold rSaid
  split
  · exact ⟨_, rfl⟩
  · exact ⟨_, rfl⟩
theorem o_said {x : Int32} (hr : 28 ≤ r) (K : CI h t fp B nn P C A ls lk wr T sd) (W : WFA t B nn P C A ls T sd) : ∃ v, OPd r h (t, fp, B, nn, P, C, A, ls, lk, wr, T, sd) v (t, fp, B, nn, P, C, A, ls, lk, wr, T, sd) yX11_said [.ref 1, .int x] yX12_said [.ref 66, .int x] := by
  obtain ⟨v, ev⟩ := sd_l (sd := sd) (i := x)
  refine ⟨v, fun Q H => ?_, fun h1 K1 w1 Q H => ?_⟩
  · refine cq_said (by omega) K W (fun h' K' f' => ?_)
    rw [ev]
    exact H h' K' W (FL_of f')
  · refine mq_said (by omega) w1 K1 W (fun h' v' K' f' o' => ?_)
    rw [ev] at o'
    rw [o'.1]; exact H h' K' f'
end OP
/-- the law's loop -/
def INV (L : Nat) (xs : Nat → Int32) (m : Nat) (h : KH) (S : SS) : Prop := (CJ h S ∧ RJ h S ∧ WJ S) ∧ (kK h 0 = (9, L) ∧ kI h 0 = xs) ∧ kC h ≤ 105 + 4 * m ∧ kS h ≤ kS G105 + 21840 * rho (NNs h) + 6000 * m
section IN
variable {r L m : Nat} {xs : Nat → Int32} {h h1 h2 : KH} {S S' : SS} {Q : KO → KH → Prop}
theorem INV_nx (V : INV L xs m h S) (K1 : CJ h1 S') (W1 : WJ S') (f1 : FL h h1) (f2 : FRf h1 h2) (R2 : RJ h2 S') : INV L xs (m + 1) h2 S' := by
  obtain ⟨_, ⟨k0, x0⟩, hc, hs⟩ := V
  obtain ⟨⟨a1, a2⟩, a3, a4⟩ := f1
  obtain ⟨b1, b2, _⟩ := FRf_eq f2
  have bK : kK h2 = kK h1 := by unfold kK; rw [b1]
  have bR : kR h2 = kR h1 := by unfold kR; rw [b1]
  have bC : kC h2 = kC h1 := by unfold kC; rw [b1]
  have bS : kS h2 = kS h1 := by unfold kS; rw [b1]
  have bN : NNs h2 = NNs h1 := by unfold NNs; rw [bK, bR]
  refine ⟨⟨CJ_frf f2 K1, R2, W1⟩, ⟨by rw [bK, a2]; exact k0, by rw [b2, (a1 0 (Or.inl rfl)).1]; exact x0⟩, by omega, ?_⟩
  rw [bN, bS]; omega
theorem lg_self (x : Int64) : lg_cmp x x = nI 0 := by
  unfold lg_cmp
  simp
  rfl
theorem law_sub {L m : Nat} (hL : L ≤ 3072) (hm : m ≤ 1000) : nI L - nI 6 < nI (6 * m) ↔ L < 6 * m + 6 := by
  by_cases q : 6 ≤ L
  · rw [a_sub (by omega), a_lt (by omega) (by omega)]; omega
  · rw [Int32.lt_iff_toInt_lt, i_ti (by omega)]
    have : (nI L - nI 6).toInt < 0 := by
      rcases (show L = 0 ∨ L = 1 ∨ L = 2 ∨ L = 3 ∨ L = 4 ∨ L = 5 by omega) with rfl | rfl | rfl | rfl | rfl | rfl <;> decide
    constructor
    · intro _; omega
    · intro _; omega
end IN

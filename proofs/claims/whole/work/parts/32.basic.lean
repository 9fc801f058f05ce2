/-! SPECS: leaves -/
section URB1
variable {s : List (Nat ⊕ (Nat × Nat))} {f : Nat → Nat → Int32} {g : Nat → Nat → Int64} {R : Nat → Nat → Option Nat} {n L b d j p P N : Nat} {r : Int32}
def inR (x : Int32) (n : Nat) : Bool := !decide (x < 0) && !decide (nI n ≤ x)
theorem inR_in (hj : j < N) (hN : N < 2 ^ 31) : inR (nI j) N = true := by
  unfold inR
  rw [decide_eq_false (nI_pos (Nat.lt_trans hj hN)), decide_eq_false (nI_ge hj hN)]
  rfl
theorem inR_of (h : inR r N = true) (hN : N < 2 ^ 31) : ∃ j, j < N ∧ r = nI j := by
  unfold inR at h
  simp only [Bool.and_eq_true, Bool.not_eq_true', decide_eq_false_iff_not] at h
  rcases pk_ix r hN with q | q | q
  · exact absurd q h.1
  · exact absurd q h.2
  · exact q
theorem s_bit (x : Int32) (hj : j < 32) {m : ur_M} : ur_call ur_G (d + 1) 136 [.int x, .int (nI j)] m = some (ur_b (bt x j), m) :=
  ur_cl rfl rfl (e_X9_bit_0 _ _ _ (by rw [b_bit hj]))
theorem s_hasRoom (hL : oLand s R L) (hN : f L 10 = nI N) : ur_call ur_G (d + 1) 3 [.ref L, .int r] (s, f, g, R) = some (ur_b (inR r N), (s, f, g, R)) := by
  refine ur_cl hL.rcv rfl (e_X1_hasRoom_0 _ _ _ ?_)
  simp only [hL.I, Option.bind_some, hN, inR]
  cases decide (r < 0) <;> cases decide (nI N ≤ r) <;> rfl
theorem s_hasPerson (hL : oLand s R L) (hN : f L 12 = nI N) : ur_call ur_G (d + 1) 4 [.ref L, .int r] (s, f, g, R) = some (ur_b (inR r N), (s, f, g, R)) := by
  refine ur_cl hL.rcv rfl (e_X1_hasPerson_0 _ _ _ ?_)
  simp only [hL.I, Option.bind_some, hN, inR]
  cases decide (r < 0) <;> cases decide (nI N ≤ r) <;> rfl
theorem s_isUnsaid_in (hL : oLand s R L) (hN : f L 10 = nI N) (hN8 : N ≤ 8) (hj : j < N) : ur_call ur_G (d + 2) 5 [.ref L, .int (nI j)] (s, f, g, R) = some (ur_b (bt (f L 9) j), (s, f, g, R)) := by
  refine ur_cl hL.rcv rfl (e_X1_isUnsaid_0 _ _ _ ?_)
  simp only [s_hasRoom hL hN, inR_in hj (show N < 2 ^ 31 by omega), Option.bind_some, ub_0, hL.I, s_bit _ (show j < 32 by omega), ub_n1]
  cases bt (f L 9) j <;> rfl
theorem s_isUnsaid_out (hL : oLand s R L) (hN : f L 10 = nI N) (hr : inR r N = false) : ur_call ur_G (d + 2) 5 [.ref L, .int r] (s, f, g, R) = some (0, (s, f, g, R)) := by
  refine ur_cl hL.rcv rfl (e_X1_isUnsaid_0 _ _ _ ?_)
  simp only [s_hasRoom hL hN, hr, Option.bind_some, ub_0]
  rfl
theorem s_saidRooms (hL : oLand s R L) : ur_call ur_G (d + 1) 6 [.ref L] (s, f, g, R) = some ((((1 : Int32) <<< (f L 10 &&& 31)) - 1) &&& (f L 9 ^^^ (-1)), (s, f, g, R)) := by
  refine ur_cl hL.rcv rfl (e_X1_saidRooms_0 _ _ ?_)
  simp only [hL.I, Option.bind_some]
theorem s_isInside (hN : oNight s R n) (hp : p < 5) : ur_call ur_G (d + 1) 42 [.ref n, .int (nI p)] (s, f, g, R) = some (ur_b (!decide (f (n + 2) p = -1)), (s, f, g, R)) := by
  refine ur_cl hN.rcv rfl (e_X5_isInside_0 _ _ _ ?_)
  simp only [hN.r1, hN.a2 hp, Option.bind_some]
  cases decide (f (n + 2) p = -1) <;> rfl
/-- a loop over persons or rooms that gathers a set -/
theorem s_allInside (hN : oNight s R n) (hL : oLand s R L) (hP : f L 12 = nI P) (hP5 : P ≤ 5) : ur_call ur_G (d + 2) 43 [.ref n, .ref L] (s, f, g, R) = some (sB (fun p => !decide (f (n + 2) p = -1)) P, (s, f, g, R)) := by
  refine ur_cl hN.rcv rfl (e_X5_allInside_0 _ _ _ ?_)
  refine sB_loop (P := fun p => !decide (f (n + 2) p = -1)) (n := P) (Fn := fun j x => ur_at ur_G (d + 1) 43 (4, [some (.ref n), some (.ref L), some (.int x), some (.int (nI j))], [], (s, f, g, R))) (fun j x hj h => ?_) ?_
  · refine e_X5_allInside_4 _ _ _ _ _ ?_
    simp only [hL.I, Option.bind_some, hP, d_le (show P < 2 ^ 31 by omega) (show j < 2 ^ 31 by omega), decide_eq_false (show ¬ P ≤ j by omega), cond_false, s_isInside hN (show j < 5 by omega), ub_0, nI_1]
    cases hq : decide (f (n + 2) j = -1) with
    | true => rw [hq] at h; simp only [Bool.not_true, cond_false, i_or0] at h; exact h
    | false => rw [hq] at h; exact h
  · refine e_X5_allInside_4 _ _ _ _ _ ?_
    simp only [hL.I, Option.bind_some, hP, d_le (show P < 2 ^ 31 by omega) (show P < 2 ^ 31 by omega), Nat.le_refl, decide_true, cond_true]
theorem s_personsIn (hN : oNight s R n) (hL : oLand s R L) (hP : f L 12 = nI P) (hP5 : P ≤ 5) : ur_call ur_G (d + 1) 45 [.ref n, .ref L, .int r] (s, f, g, R) = some (sB (fun p => decide (f (n + 1) p = r)) P, (s, f, g, R)) := by
  refine ur_cl hN.rcv rfl (e_X5_personsIn_0 _ _ _ _ ?_)
  refine sB_loop (P := fun p => decide (f (n + 1) p = r)) (n := P) (Fn := fun j x => ur_at ur_G d 45 (5, [some (.ref n), some (.ref L), some (.int r), some (.int x), some (.int (nI j))], [], (s, f, g, R))) (fun j x hj h => ?_) ?_
  · refine e_X5_personsIn_5 _ _ _ _ _ _ ?_
    simp only [hL.I, Option.bind_some, hP, d_le (show P < 2 ^ 31 by omega) (show j < 2 ^ 31 by omega), decide_eq_false (show ¬ P ≤ j by omega), cond_false, hN.r0, hN.a1 (show j < 5 by omega), nI_1]
    by_cases hq : f (n + 1) j = r
    · rw [decide_eq_true hq] at h
      rw [decide_eq_false (fun z => z hq)]
      exact h
    · rw [decide_eq_false hq] at h
      simp only [cond_false, i_or0] at h
      rw [decide_eq_true hq]
      exact h
  · refine e_X5_personsIn_5 _ _ _ _ _ _ ?_
    simp only [hL.I, Option.bind_some, hP, d_le (show P < 2 ^ 31 by omega) (show P < 2 ^ 31 by omega), Nat.le_refl, decide_true, cond_true]
-- the reference
theorem t_isRoom (hM : oModel s R b) (hN : f (b + 2) 0 = nI N) : ur_call ur_G (d + 1) 179 [.ref b, .int r] (s, f, g, R) = some (ur_b (inR r N), (s, f, g, R)) := by
  refine ur_cl hM.rcv rfl (e_X10_isRoom_0 _ _ _ ?_)
  simp only [hM.r10, Option.bind_some, show (0 : Int32) = nI 0 from rfl, hM.a2 (show 0 < 6 by decide), hN, inR]
  cases decide (r < nI 0) <;> cases decide (nI N ≤ r) <;> rfl
end URB1

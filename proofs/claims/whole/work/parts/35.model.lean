/-! SPECS: the reference's reads -/
section URM1
variable {s : List (Nat ⊕ (Nat × Nat))} {f : Nat → Nat → Int32} {g : Nat → Nat → Int64} {R : Nat → Nat → Option Nat} {b d j p P N : Nat} {r x y : Int32}
theorem t_isPerson (hM : oModel s R b) (hN : f (b + 2) 2 = nI N) : ur_call ur_G (d + 1) 180 [.ref b, .int r] (s, f, g, R) = some (ur_b (inR r N), (s, f, g, R)) := by
  refine ur_cl hM.rcv rfl (e_X10_isPerson_0 _ _ _ ?_)
  simp only [hM.r10, Option.bind_some, show (2 : Int32) = nI 2 from rfl, hM.a2 (show 2 < 6 by decide), hN, inR]
  cases decide (r < 0) <;> cases decide (nI N ≤ r) <;> rfl
theorem t_isUnsaid_in (hM : oModel s R b) (hN : f (b + 2) 0 = nI N) (hN8 : N ≤ 8) (hj : j < N) : ur_call ur_G (d + 2) 181 [.ref b, .int (nI j)] (s, f, g, R) = some (ur_b (!decide (f (b + 4) j ≤ 0)), (s, f, g, R)) := by
  refine ur_cl hM.rcv rfl (e_X10_isUnsaid_0 _ _ _ ?_)
  simp only [t_isRoom hM hN, inR_in hj (show N < 2 ^ 31 by omega), Option.bind_some, ub_0, hM.r12, hM.a4 (show j < 16 by omega)]
  cases decide (f (b + 4) j ≤ 0) <;> rfl
theorem t_isUnsaid_out (hM : oModel s R b) (hN : f (b + 2) 0 = nI N) (hr : inR r N = false) : ur_call ur_G (d + 2) 181 [.ref b, .int r] (s, f, g, R) = some (0, (s, f, g, R)) := by
  refine ur_cl hM.rcv rfl (e_X10_isUnsaid_0 _ _ _ ?_)
  simp only [t_isRoom hM hN, hr, Option.bind_some, ub_0]
  rfl
theorem t_unsaids (hM : oModel s R b) (hN : f (b + 2) 0 = nI N) (hN8 : N ≤ 8) : ur_call ur_G (d + 1) 182 [.ref b] (s, f, g, R) = some (sB (fun r => !decide (f (b + 4) r ≤ 0)) N, (s, f, g, R)) := by
  refine ur_cl hM.rcv rfl (e_X10_unsaids_0 _ _ ?_)
  refine sB_loop (P := fun r => !decide (f (b + 4) r ≤ 0)) (n := N) (Fn := fun j x => ur_at ur_G d 182 (4, [some (.ref b), some (.int x), some (.int (nI j))], [], (s, f, g, R))) (fun j x hj h => ?_) ?_
  · refine e_X10_unsaids_4 _ _ _ _ ?_
    rw [hM.r10, Option.bind_some, show ur_aI (s, f, g, R) (b + 2) 0 0 = some (f (b + 2) 0) from hM.a2 (show 0 < 6 by decide), Option.bind_some, hN, d_le (by omega) (by omega), decide_eq_false (show ¬ N ≤ j by omega), cond_false, hM.r12, Option.bind_some, hM.a4 (show j < 16 by omega), Option.bind_some, nI_1, i_or0]
    cases hq : decide (f (b + 4) j ≤ 0) with
    | true => rw [hq] at h; simp only [Bool.not_true, cond_false, i_or0] at h; exact h
    | false => rw [hq] at h; exact h
  · refine e_X10_unsaids_4 _ _ _ _ ?_
    rw [hM.r10, Option.bind_some, show ur_aI (s, f, g, R) (b + 2) 0 0 = some (f (b + 2) 0) from hM.a2 (show 0 < 6 by decide), Option.bind_some, hN, d_le (by omega) (by omega), decide_eq_true (Nat.le_refl N), cond_true]
def opM (f : Nat → Nat → Int32) (b N : Nat) : Int32 := ((((1 : Int32) <<< (nI N &&& 31)) - 1) &&& (sB (fun r => !decide (f (b + 4) r ≤ 0)) N ^^^ (-1))) &&& (f (b + 33) 2 ^^^ (-1))
theorem t_open (hM : oModel s R b) (hN : f (b + 2) 0 = nI N) (hN8 : N ≤ 8) : ur_call ur_G (d + 2) 183 [.ref b] (s, f, g, R) = some (opM f b N, (s, f, g, R)) := by
  refine ur_cl hM.rcv rfl (e_X10_open_0 _ _ ?_)
  rw [hM.r10, Option.bind_some, show ur_aI (s, f, g, R) (b + 2) 0 0 = some (f (b + 2) 0) from hM.a2 (show 0 < 6 by decide), Option.bind_some, hN, t_unsaids hM hN hN8, Option.bind_some, hM.r44, Option.bind_some, show ur_aI (s, f, g, R) (b + 33) 0 2 = some (f (b + 33) 2) from hM.a33 (show 2 < 29 by decide), Option.bind_some]
  rfl
theorem t_isOpen_in (hM : oModel s R b) (hN : f (b + 2) 0 = nI N) (hN8 : N ≤ 8) (hj : j < N) : ur_call ur_G (d + 3) 184 [.ref b, .int (nI j)] (s, f, g, R) = some (ur_b (bt (opM f b N) j), (s, f, g, R)) := by
  refine ur_cl hM.rcv rfl (e_X10_isOpen_0 _ _ _ ?_)
  rw [t_isRoom hM hN, inR_in hj (show N < 2 ^ 31 by omega), Option.bind_some, ub_0, t_open hM hN hN8, Option.bind_some, b_bit (by omega), ub_n1]
  cases bt (opM f b N) j <;> rfl
theorem t_isOpen_out (hM : oModel s R b) (hN : f (b + 2) 0 = nI N) (hr : inR r N = false) : ur_call ur_G (d + 3) 184 [.ref b, .int r] (s, f, g, R) = some (0, (s, f, g, R)) := by
  refine ur_cl hM.rcv rfl (e_X10_isOpen_0 _ _ _ ?_)
  rw [t_isRoom hM hN, hr, Option.bind_some, ub_0]
  rfl
theorem t_isInside (hM : oModel s R b) (hp : p < 5) : ur_call ur_G (d + 1) 185 [.ref b, .int (nI p)] (s, f, g, R) = some (ur_b (!decide (f (b + 33) (14 + p) < 0)), (s, f, g, R)) := by
  refine ur_cl hM.rcv rfl (e_X10_isInside_0 _ _ _ ?_)
  rw [hM.r44, Option.bind_some, show (14 : Int32) + nI p = nI (14 + p) from nI_add 14 p, hM.a33 (show 14 + p < 29 by omega), Option.bind_some]
  cases decide (f (b + 33) (14 + p) < 0) <;> rfl
theorem t_insiders (hM : oModel s R b) (hP : f (b + 2) 2 = nI P) (hP5 : P ≤ 5) : ur_call ur_G (d + 2) 187 [.ref b] (s, f, g, R) = some (sB (fun p => !decide (f (b + 33) (14 + p) < 0)) P, (s, f, g, R)) := by
  refine ur_cl hM.rcv rfl (e_X10_insiders_0 _ _ ?_)
  refine sB_loop (P := fun p => !decide (f (b + 33) (14 + p) < 0)) (n := P) (Fn := fun j x => ur_at ur_G (d + 1) 187 (4, [some (.ref b), some (.int x), some (.int (nI j))], [], (s, f, g, R))) (fun j x hj h => ?_) ?_
  · refine e_X10_insiders_4 _ _ _ _ ?_
    rw [hM.r10, Option.bind_some, show ur_aI (s, f, g, R) (b + 2) 0 2 = some (f (b + 2) 2) from hM.a2 (show 2 < 6 by decide), Option.bind_some, hP, d_le (by omega) (by omega), decide_eq_false (show ¬ P ≤ j by omega), cond_false, t_isInside hM (show j < 5 by omega), Option.bind_some, ub_0, nI_1, i_or0]
    cases hq : decide (f (b + 33) (14 + j) < 0) with
    | true => rw [hq] at h; simp only [Bool.not_true, cond_false, i_or0] at h; exact h
    | false => rw [hq] at h; exact h
  · refine e_X10_insiders_4 _ _ _ _ ?_
    rw [hM.r10, Option.bind_some, show ur_aI (s, f, g, R) (b + 2) 0 2 = some (f (b + 2) 2) from hM.a2 (show 2 < 6 by decide), Option.bind_some, hP, d_le (by omega) (by omega), decide_eq_true (Nat.le_refl P), cond_true]
theorem t_whoIn (hM : oModel s R b) (hP : f (b + 2) 2 = nI P) (hP5 : P ≤ 5) : ur_call ur_G (d + 1) 188 [.ref b, .int r] (s, f, g, R) = some (sB (fun p => decide (f (b + 33) (4 + p) = r)) P, (s, f, g, R)) := by
  refine ur_cl hM.rcv rfl (e_X10_whoIn_0 _ _ _ ?_)
  refine sB_loop (P := fun p => decide (f (b + 33) (4 + p) = r)) (n := P) (Fn := fun j x => ur_at ur_G d 188 (4, [some (.ref b), some (.int r), some (.int x), some (.int (nI j))], [], (s, f, g, R))) (fun j x hj h => ?_) ?_
  · refine e_X10_whoIn_4 _ _ _ _ _ ?_
    rw [hM.r10, Option.bind_some, show ur_aI (s, f, g, R) (b + 2) 0 2 = some (f (b + 2) 2) from hM.a2 (show 2 < 6 by decide), Option.bind_some, hP, d_le (by omega) (by omega), decide_eq_false (show ¬ P ≤ j by omega), cond_false, hM.r44, Option.bind_some, show (4 : Int32) + nI j = nI (4 + j) from nI_add 4 j, hM.a33 (show 4 + j < 29 by omega), Option.bind_some, nI_1, i_or0]
    by_cases hq : f (b + 33) (4 + j) = r
    · rw [decide_eq_true hq] at h
      rw [decide_eq_false (fun z => z hq)]
      exact h
    · rw [decide_eq_false hq] at h
      simp only [cond_false, i_or0] at h
      rw [decide_eq_true hq]
      exact h
  · refine e_X10_whoIn_4 _ _ _ _ _ ?_
    rw [hM.r10, Option.bind_some, show ur_aI (s, f, g, R) (b + 2) 0 2 = some (f (b + 2) 2) from hM.a2 (show 2 < 6 by decide), Option.bind_some, hP, d_le (by omega) (by omega), decide_eq_true (Nat.le_refl P), cond_true]
/-- the first of those, else -1 -/
def fsP (Q : Nat → Bool) : Nat → Nat → Int32
  | 0, _ => -1
  | n + 1, j => bif Q j then nI j else fsP Q n (j + 1)
theorem t_hostOf (hM : oModel s R b) (hP : f (b + 2) 2 = nI P) (hP5 : P ≤ 5) : ur_call ur_G (d + 2) 186 [.ref b, .int r] (s, f, g, R) = some (fsP (fun p => !decide (f (b + 33) (14 + p) < 0) && decide (f (b + 33) (4 + p) = r)) P 0, (s, f, g, R)) := by
  refine ur_cl hM.rcv rfl (e_X10_hostOf_0 _ _ _ ?_)
  have key : ∀ (n j : Nat), n + j = P → ur_at ur_G (d + 1) 186 (2, [some (.ref b), some (.int r), some (.int (nI j))], [], (s, f, g, R)) = some (fsP (fun p => !decide (f (b + 33) (14 + p) < 0) && decide (f (b + 33) (4 + p) = r)) n j, (s, f, g, R)) := by
    intro n
    induction n with
    | zero =>
      intro j hj
      refine e_X10_hostOf_2 _ _ _ _ ?_
      rw [hM.r10, Option.bind_some, show ur_aI (s, f, g, R) (b + 2) 0 2 = some (f (b + 2) 2) from hM.a2 (show 2 < 6 by decide), Option.bind_some, hP, d_le (by omega) (by omega), decide_eq_true (show P ≤ j by omega), cond_true]
      rfl
    | succ n ih =>
      intro j hj
      refine e_X10_hostOf_2 _ _ _ _ ?_
      rw [hM.r10, Option.bind_some, show ur_aI (s, f, g, R) (b + 2) 0 2 = some (f (b + 2) 2) from hM.a2 (show 2 < 6 by decide), Option.bind_some, hP, d_le (by omega) (by omega), decide_eq_false (show ¬ P ≤ j by omega), cond_false, t_isInside hM (show j < 5 by omega), Option.bind_some, ub_0, nI_1, ih (j + 1) (by omega), hM.r44, Option.bind_some, show (4 : Int32) + nI j = nI (4 + j) from nI_add 4 j, hM.a33 (show 4 + j < 29 by omega), Option.bind_some]
      show _ = some (bif !decide (f (b + 33) (14 + j) < 0) && decide (f (b + 33) (4 + j) = r) then nI j else fsP _ n (j + 1), (s, f, g, R))
      by_cases hq : f (b + 33) (4 + j) = r
      · rw [decide_eq_true hq, decide_eq_false (show ¬ f (b + 33) (4 + j) ≠ r from fun z => z hq)]
        cases decide (f (b + 33) (14 + j) < 0) <;> rfl
      · rw [decide_eq_false hq, decide_eq_true (show f (b + 33) (4 + j) ≠ r from hq)]
        cases decide (f (b + 33) (14 + j) < 0) <;> rfl
  exact key P 0 (Nat.add_zero P)
end URM1

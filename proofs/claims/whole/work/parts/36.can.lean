/-! SPECS: what can be done -/
theorem fsB_sB (Q : Nat → Bool) {P : Nat} (hP : P ≤ 8) : fsB (sB Q P) 8 0 = fsP Q P 0 := by
  have key : ∀ (n j : Nat), n + j = 8 → j ≤ P → fsB (sB Q P) n j = fsP Q (P - j) j := by
    intro n
    induction n with
    | zero => intro j h1 h2; rw [show P - j = 0 by omega]; rfl
    | succ n ih =>
      intro j h1 h2
      show (bif bt (sB Q P) j then nI j else fsB (sB Q P) n (j + 1)) = _
      rw [sB_bt Q P (by omega) j (by omega)]
      by_cases hj : j < P
      · rw [show P - j = (P - (j + 1)) + 1 by omega]
        show _ = (bif Q j then nI j else fsP Q (P - (j + 1)) (j + 1))
        rw [ih (j + 1) (by omega) (by omega), decide_eq_true hj, Bool.true_and]
      · have : j = P := by omega
        subst this
        rw [decide_eq_false hj, Bool.false_and, cond_false, Nat.sub_self]
        show _ = (-1 : Int32)
        have z : ∀ (n i : Nat), n + i = 8 → j ≤ i → fsB (sB Q j) n i = -1 := by
          intro n
          induction n with
          | zero => intro i _ _; rfl
          | succ n ih2 =>
            intro i e1 e2
            show (bif bt (sB Q j) i then nI i else fsB (sB Q j) n (i + 1)) = _
            rw [sB_bt Q j (by omega) i (by omega), decide_eq_false (show ¬ i < j by omega), Bool.false_and, cond_false]
            exact ih2 (i + 1) (by omega) (by omega)
        exact z n (j + 1) (by omega) (by omega)
  exact key 8 0 rfl (Nat.zero_le P)
theorem sB_zero {Q : Nat → Bool} : ∀ {P : Nat}, sB Q P = 0 → P ≤ 32 → ∀ p, p < P → Q p = false := by
  intro P h hP p hp
  have := sB_bt Q P hP p (by omega)
  rw [h, b_0, decide_eq_true hp, Bool.true_and] at this
  exact this.symm
theorem fsP_none {Q : Nat → Bool} : ∀ (n j : Nat), (∀ p, j ≤ p → p < j + n → Q p = false) → fsP Q n j = -1
  | 0, _, _ => rfl
  | n + 1, j, h => by
    show (bif Q j then nI j else fsP Q n (j + 1)) = -1
    rw [h j (Nat.le_refl j) (by omega), cond_false]
    exact fsP_none n (j + 1) (fun p h1 h2 => h p (by omega) (by omega))
theorem fsP_congr {Q Q' : Nat → Bool} : ∀ (n j : Nat), (∀ p, j ≤ p → p < j + n → Q p = Q' p) → fsP Q n j = fsP Q' n j
  | 0, _, _ => rfl
  | n + 1, j, h => by
    show (bif Q j then nI j else fsP Q n (j + 1)) = (bif Q' j then nI j else fsP Q' n (j + 1))
    rw [h j (Nat.le_refl j) (by omega), fsP_congr n (j + 1) (fun p h1 h2 => h p (by omega) (by omega))]
/-- none, or a small number -/
theorem fsP_neg {Q : Nat → Bool} : ∀ (n j : Nat), n + j < 2 ^ 31 → decide (0 ≤ fsP Q n j) = decide (fsP Q n j ≠ -1)
  | 0, _, _ => by
    show decide ((0 : Int32) ≤ -1) = decide ((-1 : Int32) ≠ -1)
    decide
  | n + 1, j, h => by
    show decide (0 ≤ bif Q j then nI j else fsP Q n (j + 1)) = decide ((bif Q j then nI j else fsP Q n (j + 1)) ≠ -1)
    cases Q j with
    | true =>
      simp only [cond_true]
      rw [decide_eq_true (nI_pos' (show j < 2 ^ 31 by omega)), decide_eq_true]
      intro z
      have h1 := nI_pos' (show j < 2 ^ 31 by omega)
      rw [z] at h1
      exact absurd h1 (by decide)
    | false => exact fsP_neg n (j + 1) (by omega)
section URC1
variable {s : List (Nat ⊕ (Nat × Nat))} {f : Nat → Nat → Int32} {g : Nat → Nat → Int64} {R : Nat → Nat → Option Nat} {n L b d j p P N w : Nat} {r x y : Int32}
theorem s_hostOf (hN : oNight s R n) (hL : oLand s R L) (hP : f L 12 = nI P) (hP5 : P ≤ 5) : ur_call ur_G (d + 2) 46 [.ref n, .ref L, .int r] (s, f, g, R) = some (fsP (fun p => decide (f (n + 1) p = r)) P 0, (s, f, g, R)) := by
  refine ur_cl hN.rcv rfl (e_X5_hostOf_0 _ _ _ _ ?_)
  simp only [s_personsIn hN hL hP hP5, Option.bind_some, u_nz]
  by_cases h0 : sB (fun p => decide (f (n + 1) p = r)) P = 0
  · rw [decide_eq_false (show ¬ sB (fun p => decide (f (n + 1) p = r)) P ≠ 0 from fun z => z h0), cond_false, fsP_none P 0 (fun p _ h2 => sB_zero h0 (by omega) p (by omega))]
  · rw [decide_eq_true (show sB (fun p => decide (f (n + 1) p = r)) P ≠ 0 from h0), cond_true, nz_sm (sm8_sB (by omega)) h0, fsB_sB _ (by omega)]
def inX (f : Nat → Nat → Int32) (n p : Nat) : Bool := !decide (f (n + 2) p = -1)
def ltX (f : Nat → Nat → Int32) (n L p : Nat) : Bool := !bt (f n 5) p && (!(decide (f (L + 5) p = 2) && !decide (4 ≤ f (L + 6) p)) && !decide (f (L + 5) p = 3))
theorem s_standsBeside (hN : oNight s R n) (hL : oLand s R L) (hP : f L 12 = nI P) (hP5 : P ≤ 5) (hR : f L 10 = nI N) (hR8 : N ≤ 8) (hp : p < P) (hj : j < N) (hw : f (n + 1) p = nI w) (hw8 : w < 8) : ur_call ur_G (d + 2) 47 [.ref n, .ref L, .int (nI p), .int (nI j)] (s, f, g, R) = some (ur_b (!inX f n p && bt (f (L + 3) j) w), (s, f, g, R)) := by
  refine ur_cl hN.rcv rfl (e_X5_standsBeside_0 _ _ _ _ _ ?_)
  simp only [s_hasPerson hL hP, inR_in hp (show P < 2 ^ 31 by omega), Option.bind_some, ub_0, s_hasRoom hL hR, inR_in hj (show N < 2 ^ 31 by omega), s_isInside hN (show p < 5 by omega), ub_n0, hL.r2, hL.a3 (show j < 8 by omega), hN.r0, hN.a1 (show p < 5 by omega), hw, s_bit _ (show w < 32 by omega), ub_n1, inX]
  cases decide (f (n + 2) p = -1) <;> cases bt (f (L + 3) j) w <;> rfl
theorem s_standsBeside_out (hN : oNight s R n) (hL : oLand s R L) (hP : f L 12 = nI P) (hR : f L 10 = nI N) (h : inR x P = false ∨ inR y N = false) : ur_call ur_G (d + 2) 47 [.ref n, .ref L, .int x, .int y] (s, f, g, R) = some (0, (s, f, g, R)) := by
  refine ur_cl hN.rcv rfl (e_X5_standsBeside_0 _ _ _ _ _ ?_)
  simp only [s_hasPerson hL hP, Option.bind_some, ub_0, s_hasRoom hL hR]
  rcases h with h | h
  · rw [h]; rfl
  · rw [h]; cases inR x P <;> rfl
theorem s_canWalk (hN : oNight s R n) (hL : oLand s R L) (hP : f L 12 = nI P) (hP5 : P ≤ 5) (hR : f L 10 = nI N) (hR8 : N ≤ 8) (hp : p < P) (hj : j < N) (hw : f (n + 1) p = nI w) (hw8 : w < 8) : ur_call ur_G (d + 3) 48 [.ref n, .ref L, .int (nI p), .int (nI j)] (s, f, g, R) = some (ur_b ((!inX f n p && bt (f (L + 3) j) w) && (!bt (f L 9) j && !bt (f n 6) j)), (s, f, g, R)) := by
  refine ur_cl hN.rcv rfl (e_X5_canWalk_0 _ _ _ _ _ ?_)
  simp only [s_standsBeside hN hL hP hP5 hR hR8 hp hj hw hw8, Option.bind_some, ub_0, s_isUnsaid_in hL hR hR8 hj, ub_n0, hN.I, s_bit _ (show j < 32 by omega)]
  cases (!inX f n p && bt (f (L + 3) j) w) <;> cases bt (f L 9) j <;> cases bt (f n 6) j <;> rfl
theorem s_canWalk_out (hN : oNight s R n) (hL : oLand s R L) (hP : f L 12 = nI P) (hR : f L 10 = nI N) (h : inR x P = false ∨ inR y N = false) : ur_call ur_G (d + 3) 48 [.ref n, .ref L, .int x, .int y] (s, f, g, R) = some (0, (s, f, g, R)) := by
  refine ur_cl hN.rcv rfl (e_X5_canWalk_0 _ _ _ _ _ ?_)
  rw [s_standsBeside_out hN hL hP hR h]
  rfl
theorem s_isLet (hN : oNight s R n) (hL : oLand s R L) (hp : p < 5) : ur_call ur_G (d + 2) 50 [.ref n, .ref L, .int (nI p)] (s, f, g, R) = some (ur_b (ltX f n L p), (s, f, g, R)) := by
  have key : ∀ c : Bool, ur_at ur_G (d + 1) 50 (25, [some (.ref n), some (.ref L), some (.int (nI p)), none], [.int (ur_b c)], (s, f, g, R)) = some (ur_b (!bt (f n 5) p && (!c && !decide (f (L + 5) p = 3))), (s, f, g, R)) := by
    intro c
    refine e_X5_isLet_25 _ _ _ _ _ ?_
    simp only [hN.I, Option.bind_some, s_bit _ (show p < 32 by omega), ub_n0, hL.r4, hL.a5 hp]
    cases bt (f n 5) p <;> cases c <;> cases decide (f (L + 5) p = 3) <;> rfl
  refine ur_cl hN.rcv rfl (e_X5_isLet_0 _ _ _ _ ?_)
  simp only [hL.r4, hL.a5 hp, Option.bind_some, hL.r5, hL.a6 hp]
  have k0 := key false
  have k1 := key true
  rw [show ur_b false = (0 : Int32) from rfl] at k0
  rw [show ur_b true = (1 : Int32) from rfl] at k1
  rw [k0, k1]
  unfold ltX
  by_cases h2 : f (L + 5) p = 2
  · rw [decide_eq_true h2, decide_eq_false (show ¬ f (L + 5) p ≠ 2 from fun z => z h2)]
    cases decide (4 ≤ f (L + 6) p) <;> rfl
  · rw [decide_eq_false h2, decide_eq_true (show f (L + 5) p ≠ 2 from h2)]
    rfl
theorem s_canShow (hN : oNight s R n) (hL : oLand s R L) (hP : f L 12 = nI P) (hP5 : P ≤ 5) (hR : f L 10 = nI N) (hR8 : N ≤ 8) (hp : p < P) (hj : j < N) (hw : f (n + 1) p = nI w) (hw8 : w < 8) : ur_call ur_G (d + 3) 51 [.ref n, .ref L, .int (nI p), .int (nI j)] (s, f, g, R) = some (ur_b ((!inX f n p && bt (f (L + 3) j) w) && (bt (f L 9) j && (ltX f n L p && decide (fsP (fun q => decide (f (n + 1) q = nI j)) P 0 = -1)))), (s, f, g, R)) := by
  refine ur_cl hN.rcv rfl (e_X5_canShow_0 _ _ _ _ _ ?_)
  simp only [s_standsBeside hN hL hP hP5 hR hR8 hp hj hw hw8, Option.bind_some, ub_0, s_isUnsaid_in hL hR hR8 hj, s_isLet hN hL (show p < 5 by omega), s_hostOf hN hL hP hP5]
  by_cases h1 : fsP (fun q => decide (f (n + 1) q = nI j)) P 0 = -1
  · rw [decide_eq_true h1, decide_eq_false (show ¬ fsP (fun q => decide (f (n + 1) q = nI j)) P 0 ≠ -1 from fun z => z h1)]
    cases (!inX f n p && bt (f (L + 3) j) w) <;> cases bt (f L 9) j <;> cases ltX f n L p <;> rfl
  · rw [decide_eq_false h1, decide_eq_true (show fsP (fun q => decide (f (n + 1) q = nI j)) P 0 ≠ -1 from h1)]
    cases (!inX f n p && bt (f (L + 3) j) w) <;> cases bt (f L 9) j <;> cases ltX f n L p <;> rfl
theorem s_canShow_out (hN : oNight s R n) (hL : oLand s R L) (hP : f L 12 = nI P) (hR : f L 10 = nI N) (h : inR x P = false ∨ inR y N = false) : ur_call ur_G (d + 3) 51 [.ref n, .ref L, .int x, .int y] (s, f, g, R) = some (0, (s, f, g, R)) := by
  refine ur_cl hN.rcv rfl (e_X5_canShow_0 _ _ _ _ _ ?_)
  rw [s_standsBeside_out hN hL hP hR h]
  rfl
theorem s_canSpeak (hN : oNight s R n) (hL : oLand s R L) (hP : f L 12 = nI P) (hP5 : P ≤ 5) (hp : p < P) : ur_call ur_G (d + 2) 54 [.ref n, .ref L, .int (nI p)] (s, f, g, R) = some (ur_b (!decide (f (n + 4) p ≤ 0) && (!decide (f (L + 5) p = 1) && (!inX f n p && !bt (f n 5) p))), (s, f, g, R)) := by
  refine ur_cl hN.rcv rfl (e_X5_canSpeak_0 _ _ _ _ ?_)
  simp only [s_hasPerson hL hP, inR_in hp (show P < 2 ^ 31 by omega), Option.bind_some, ub_0, hN.r3, hN.a4 (show p < 5 by omega), hL.r4, hL.a5 (show p < 5 by omega), s_isInside hN (show p < 5 by omega), ub_n0, hN.I, s_bit _ (show p < 32 by omega), inX]
  cases decide (f (n + 4) p ≤ 0) <;> cases decide (f (L + 5) p = 1) <;> cases decide (f (n + 2) p = -1) <;> cases bt (f n 5) p <;> rfl
theorem s_canSpeak_out (hN : oNight s R n) (hL : oLand s R L) (hP : f L 12 = nI P) (h : inR x P = false) : ur_call ur_G (d + 2) 54 [.ref n, .ref L, .int x] (s, f, g, R) = some (0, (s, f, g, R)) := by
  refine ur_cl hN.rcv rfl (e_X5_canSpeak_0 _ _ _ _ ?_)
  simp only [s_hasPerson hL hP, h, Option.bind_some, ub_0]
  rfl
theorem s_allBeen (hN : oNight s R n) (hL : oLand s R L) (hP : f L 12 = nI P) (hP5 : P ≤ 5) : ur_call ur_G (d + 1) 44 [.ref n, .ref L] (s, f, g, R) = some (itr (fun p (a : Int32) => a + f (n + 5) p) P 0, (s, f, g, R)) := by
  refine ur_cl hN.rcv rfl (e_X5_allBeen_0 _ _ _ ?_)
  refine itr_loop (step := fun p (a : Int32) => a + f (n + 5) p) (n := P) (Fn := fun j a => ur_at ur_G d 44 (4, [some (.ref n), some (.ref L), some (.int a), some (.int (nI j))], [], (s, f, g, R))) (fun j a hj h => ?_) P 0 (Nat.le_refl P) ?_
  · refine e_X5_allBeen_4 _ _ _ _ _ ?_
    simp only [hL.I, Option.bind_some, hP, d_le (show P < 2 ^ 31 by omega) (show j < 2 ^ 31 by omega), decide_eq_false (show ¬ P ≤ j by omega), cond_false, hN.r4, hN.a5 (show j < 5 by omega), nI_1]
    exact h
  · refine e_X5_allBeen_4 _ _ _ _ _ ?_
    simp only [hL.I, Option.bind_some, hP, d_le (show P < 2 ^ 31 by omega) (show P < 2 ^ 31 by omega), Nat.le_refl, decide_true, cond_true]
-- the reference
def inM' (f : Nat → Nat → Int32) (b p : Nat) : Bool := !decide (f (b + 33) (14 + p) < 0)
theorem t_goesOf (hM : oModel s R b) (hN : f (b + 2) 0 = nI N) (hN8 : N ≤ 8) (hp : p < 5) (hw : f (b + 33) (4 + p) = nI w) (hw8 : w < 8) : ur_call ur_G (d + 3) 193 [.ref b, .int (nI p)] (s, f, g, R) = some (bif inM' f b p then 0 else f (b + 5) w &&& opM f b N, (s, f, g, R)) := by
  refine ur_cl hM.rcv rfl (e_X10_goesOf_0 _ _ _ ?_)
  simp only [t_isInside hM hp, Option.bind_some, ub_0, hM.r13, hM.r44, show (4 : Int32) + nI p = nI (4 + p) from nI_add 4 p, hM.a33 (show 4 + p < 29 by omega), hw, hM.a5 (show w < 16 by omega), t_open hM hN hN8, inM']
  cases decide (f (b + 33) (14 + p) < 0) <;> rfl
def ftM (f : Nat → Nat → Int32) (b p : Nat) : Bool := !bt (f (b + 33) 3) p && (!decide (f (b + 7) p = 3) && ((!decide (f (b + 7) p = 2) || !decide (f (b + 8) p ≤ 3)) && !inM' f b p))
theorem t_isFit (hM : oModel s R b) (hp : p < 5) : ur_call ur_G (d + 2) 190 [.ref b, .int (nI p)] (s, f, g, R) = some (ur_b (ftM f b p), (s, f, g, R)) := by
  refine ur_cl hM.rcv rfl (e_X10_isFit_0 _ _ _ ?_)
  rw [hM.r44, Option.bind_some, show ur_aI (s, f, g, R) (b + 33) 0 3 = some (f (b + 33) 3) from hM.a33 (show 3 < 29 by decide), Option.bind_some, b_bit (by omega), ub_n0]
  simp only [hM.r15, hM.r16, Option.bind_some, hM.a7 (show p < 10 by omega), hM.a8 (show p < 10 by omega), t_isInside hM hp, ub_n0, ftM, inM']
  by_cases h2 : f (b + 7) p = 2
  · rw [decide_eq_true h2, decide_eq_false (show ¬ f (b + 7) p ≠ 2 from fun z => z h2)]
    cases bt (f (b + 33) 3) p <;> cases decide (f (b + 7) p = 3) <;> cases decide (f (b + 8) p ≤ 3) <;> cases decide (f (b + 33) (14 + p) < 0) <;> rfl
  · rw [decide_eq_false h2, decide_eq_true (show f (b + 7) p ≠ 2 from h2)]
    cases bt (f (b + 33) 3) p <;> cases decide (f (b + 7) p = 3) <;> cases decide (f (b + 33) (14 + p) < 0) <;> rfl
theorem t_canShow (hM : oModel s R b) (hP : f (b + 2) 2 = nI P) (hP5 : P ≤ 5) (hp : p < 5) (hj : j < 8) (hw : f (b + 33) (4 + p) = nI w) (hw8 : w < 8) : ur_call ur_G (d + 3) 191 [.ref b, .int (nI p), .int (nI j)] (s, f, g, R) = some (ur_b (ftM f b p && (!decide (f (b + 4) j ≤ 0) && (bt (f (b + 5) w) j && decide (fsP (fun q => inM' f b q && decide (f (b + 33) (4 + q) = nI j)) P 0 = -1)))), (s, f, g, R)) := by
  refine ur_cl hM.rcv rfl (e_X10_canShow_0 _ _ _ _ ?_)
  simp only [t_isFit hM hp, Option.bind_some, ub_0, hM.r12, hM.a4 (show j < 16 by omega), hM.r13, hM.r44, show (4 : Int32) + nI p = nI (4 + p) from nI_add 4 p, hM.a33 (show 4 + p < 29 by omega), hw, hM.a5 (show w < 16 by omega), b_bit (show j < 32 by omega), ub_n1, t_hostOf hM hP hP5, fsP_neg P 0 (show P + 0 < 2 ^ 31 by omega)]
  by_cases h1 : fsP (fun q => inM' f b q && decide (f (b + 33) (4 + q) = nI j)) P 0 = -1
  · rw [decide_eq_true h1, decide_eq_false (show ¬ fsP (fun p => !decide (f (b + 33) (14 + p) < 0) && decide (f (b + 33) (4 + p) = nI j)) P 0 ≠ -1 from fun z => z h1)]
    cases ftM f b p <;> cases decide (f (b + 4) j ≤ 0) <;> cases bt (f (b + 5) w) j <;> rfl
  · rw [decide_eq_false h1, decide_eq_true (show fsP (fun p => !decide (f (b + 33) (14 + p) < 0) && decide (f (b + 33) (4 + p) = nI j)) P 0 ≠ -1 from h1)]
    cases ftM f b p <;> cases decide (f (b + 4) j ≤ 0) <;> cases bt (f (b + 5) w) j <;> rfl
theorem t_canSpeak (hM : oModel s R b) (hp : p < 5) : ur_call ur_G (d + 2) 194 [.ref b, .int (nI p)] (s, f, g, R) = some (ur_b (!decide (f (b + 7) p = 1) && (!inM' f b p && (!decide (f (b + 33) (19 + p) ≤ 0) && !bt (f (b + 33) 3) p))), (s, f, g, R)) := by
  refine ur_cl hM.rcv rfl (e_X10_canSpeak_0 _ _ _ ?_)
  simp only [hM.r15, hM.a7 (show p < 10 by omega), Option.bind_some, t_isInside hM hp, ub_n0, hM.r44, show (19 : Int32) + nI p = nI (19 + p) from nI_add 19 p, hM.a33 (show 19 + p < 29 by omega), show ur_aI (s, f, g, R) (b + 33) 0 3 = some (f (b + 33) 3) from hM.a33 (show 3 < 29 by decide), b_bit (show p < 32 by omega), inM']
  cases decide (f (b + 7) p = 1) <;> cases decide (f (b + 33) (14 + p) < 0) <;> cases decide (f (b + 33) (19 + p) ≤ 0) <;> cases bt (f (b + 33) 3) p <;> rfl
theorem t_allBeen (hM : oModel s R b) : ur_call ur_G (d + 1) 210 [.ref b] (s, f, g, R) = some (itr (fun p (a : Int32) => a + f (b + 33) (24 + p)) 5 0, (s, f, g, R)) := by
  refine ur_cl hM.rcv rfl (e_X10_allBeen_0 _ _ ?_)
  refine itr_loop (step := fun p (a : Int32) => a + f (b + 33) (24 + p)) (n := 5) (Fn := fun j a => ur_at ur_G d 210 (4, [some (.ref b), some (.int a), some (.int (nI j))], [], (s, f, g, R))) (fun j a hj h => ?_) 5 0 (Nat.le_refl 5) ?_
  · refine e_X10_allBeen_4 _ _ _ _ ?_
    rw [show (5 : Int32) = nI 5 from rfl, d_le (by decide) (by omega), decide_eq_false (show ¬ 5 ≤ j by omega), cond_false, hM.r44, Option.bind_some, show (24 : Int32) + nI j = nI (24 + j) from nI_add 24 j, hM.a33 (show 24 + j < 29 by omega), Option.bind_some, nI_1]
    exact h
  · exact e_X10_allBeen_4 _ _ _ _ rfl
end URC1

/-! The class: what is done to a night -/
def TNL (n L : Nat) : Nat → Nat → Prop := fun a k => TN n a k ∨ TL L a k
def cl30 (v : Int32) : Int32 := bif decide (1 ≤ v) then (bif decide (v ≤ 30) then v else 30) else 1
theorem cl30_is (v : Int32) : ∃ k, 1 ≤ k ∧ k ≤ 30 ∧ cl30 v = nI k := by
  unfold cl30
  by_cases h1 : 1 ≤ v
  · rw [decide_eq_true h1, cond_true]
    by_cases h2 : v ≤ 30
    · rw [decide_eq_true h2, cond_true]
      have h0 : ¬ v < 0 := fun z => absurd (Int32.lt_of_le_of_lt h1 z) (by decide)
      obtain ⟨j, hj, e⟩ := nI_of h0
      rw [e] at h1 h2 ⊢
      refine ⟨j, ?_, ?_, rfl⟩
      · exact (nI_leI (a := 1) (by decide) hj).mp h1
      · exact (nI_leI (b := 30) hj (by decide)).mp h2
    · rw [decide_eq_false h2]
      exact ⟨30, by decide, by decide, rfl⟩
  · rw [decide_eq_false h1]
    exact ⟨1, by decide, by decide, rfl⟩
theorem cl30_mx (v : Int32) : ur_mx 1 (ur_mn 30 v) = cl30 v := by
  unfold ur_mx ur_mn cl30
  by_cases h2 : v < 30
  · rw [if_pos h2, decide_eq_true (Int32.le_of_lt h2), cond_true]
    by_cases h1 : (1 : Int32) < v
    · rw [if_pos h1, decide_eq_true (Int32.le_of_lt h1), cond_true]
    · rw [if_neg h1]
      by_cases h3 : 1 ≤ v
      · rw [decide_eq_true h3, cond_true]
        exact Int32.le_antisymm h3 (Int32.not_lt.mp h1)
      · rw [decide_eq_false h3]; rfl
  · rw [if_neg h2]
    have h3 : 30 ≤ v := Int32.not_lt.mp h2
    rw [if_pos (by decide), decide_eq_true (Int32.le_trans (by decide) h3), cond_true]
    by_cases h4 : v ≤ 30
    · rw [decide_eq_true h4, cond_true]
      exact Int32.le_antisymm h3 h4
    · rw [decide_eq_false h4]; rfl
/-- the law as a function -/
def lwX (l : Nat → Nat → Int32) (E : Int32 → Int32 → Int32 → Int32 → Int32) : Prop := ∃ z, z ≤ 1000 ∧ l 8 2 = nI z ∧ ∀ u t y n K, vlX (l 9) z u t y n K = E u t y n
/-- a night n and a land L in memory -/
def cX (s : List (Nat ⊕ (Nat × Nat))) (R : Nat → Nat → Option Nat) (f : Nat → Nat → Int32) (n L : Nat) (l V : Nat → Nat → Int32) (N P : Nat) : Prop :=
  oNight s R n ∧ oLand s R L ∧ bN f n V ∧ bL f L l ∧ L + 11 ≤ n ∧ l 0 10 = nI N ∧ N ≤ 8 ∧ l 0 12 = nI P ∧ P ≤ 5
def wkV (l V : Nat → Nat → Int32) (p j w : Nat) : Bool := (!inV V p && bt (l 3 j) w) && (!bt (l 0 9) j && !bt (V 0 6) j)
def shV (l V : Nat → Nat → Int32) (P p j w : Nat) : Bool := (!inV V p && bt (l 3 j) w) && (bt (l 0 9) j && (ltV V l p && decide (fsP (fun q => decide (V 1 q = nI j)) P 0 = -1)))
def skV (l V : Nat → Nat → Int32) (p : Nat) : Bool := !decide (V 4 p ≤ 0) && (!decide (l 5 p = 1) && (!inV V p && !bt (V 0 5) p))
def syV (E : Int32 → Int32 → Int32 → Int32 → Int32) (l V : Nat → Nat → Int32) (p j : Nat) (n : Int32) : Int32 := cl30 (E (l 2 j) (V 4 p) (l 6 p) n)
def twV (V : Nat → Nat → Int32) (p j : Nat) : Nat → Nat → Int32 := ur_u V 1 p (nI j)
def tsV (V : Nat → Nat → Int32) (p j : Nat) (m : Int32) : Nat → Nat → Int32 := ur_u (ur_u (ur_u (ur_u V 3 p (V 1 p)) 1 p (nI j)) 2 p m) 4 p (V 4 p + 1)
def tpV (V : Nat → Nat → Int32) (p : Nat) : Nat → Nat → Int32 := ur_u (ur_u (ur_u V 0 5 (V 0 5 ||| ((1 : Int32) <<< (nI p &&& 31)))) 4 p 0) 5 p 0
def alV (l V : Nat → Nat → Int32) (P : Nat) : Int32 := itr (fun q (a : Int32) => a &&& (((1 : Int32) <<< (V 1 q &&& 31)) ^^^ (-1))) P (((((1 : Int32) <<< (l 0 10 &&& 31)) - 1) &&& (l 0 9 ^^^ (-1))) &&& (V 0 6 ^^^ (-1)))
def flV (l V : Nat → Nat → Int32) (N P j : Nat) : Int32 := spX (l 3) N ((1 : Int32) <<< (nI j &&& 31)) (alV l V P)
section URX2
variable {s : List (Nat ⊕ (Nat × Nat))} {f f' l V V' : Nat → Nat → Int32} {g : Nat → Nat → Int64} {R : Nat → Nat → Option Nat} {n L b d j p P N w q : Nat} {r x y : Int32} {E : Int32 → Int32 → Int32 → Int32 → Int32} {T : Nat → Nat → Prop}
theorem cX.oN (h : cX s R f n L l V N P) : oNight s R n := h.1
theorem cX.oL (h : cX s R f n L l V N P) : oLand s R L := h.2.1
theorem cX.bn (h : cX s R f n L l V N P) : bN f n V := h.2.2.1
theorem cX.bl (h : cX s R f n L l V N P) : bL f L l := h.2.2.2.1
theorem cX.dd (h : cX s R f n L l V N P) : L + 11 ≤ n := h.2.2.2.2.1
theorem cX.r8 (h : cX s R f n L l V N P) : N ≤ 8 := h.2.2.2.2.2.2.1
theorem cX.p5 (h : cX s R f n L l V N P) : P ≤ 5 := h.2.2.2.2.2.2.2.2
theorem cX.er (h : cX s R f n L l V N P) : f L 10 = nI N := by rw [show f L = l 0 from h.bl.1 0 (by decide)]; exact h.2.2.2.2.2.1
theorem cX.ep (h : cX s R f n L l V N P) : f L 12 = nI P := by rw [show f L = l 0 from h.bl.1 0 (by decide)]; exact h.2.2.2.2.2.2.2.1
theorem cX.fr (h : cX s R f n L l V N P) (hT : eqT T f f') (hb : bN f' n V') (hd : ∀ a k, L ≤ a → a < L + 11 → T a k → TL L a k) : cX s R f' n L l V' N P := ⟨h.1, h.2.1, hb, h.2.2.2.1.fr hT hd, h.2.2.2.2⟩
theorem TNL_L (hd : L + 11 ≤ n) : ∀ a k, L ≤ a → a < L + 11 → TNL n L a k → TL L a k := fun a k h1 h2 h3 => by
  rcases h3 with h | h
  · unfold TN at h; omega
  · exact h
theorem c_canWalk (h : cX s R f n L l V N P) (hp : p < P) (hj : j < N) (hw : V 1 p = nI w) (hw8 : w < 8) : ur_call ur_G (d + 3) 48 [.ref n, .ref L, .int (nI p), .int (nI j)] (s, f, g, R) = some (ur_b (wkV l V p j w), (s, f, g, R)) := by
  have := s_canWalk (d := d) (g := g) h.oN h.oL h.ep h.p5 h.er h.r8 hp hj (by rw [h.bn 1 (by decide)]; exact hw) hw8
  unfold inX at this
  rw [h.bn 2 (by decide), h.bl.1 3 (by decide), show f L = l 0 from h.bl.1 0 (by decide), show f n = V 0 from h.bn 0 (by decide)] at this
  exact this
theorem c_canShow (h : cX s R f n L l V N P) (hp : p < P) (hj : j < N) (hw : V 1 p = nI w) (hw8 : w < 8) : ur_call ur_G (d + 3) 51 [.ref n, .ref L, .int (nI p), .int (nI j)] (s, f, g, R) = some (ur_b (shV l V P p j w), (s, f, g, R)) := by
  have := s_canShow (d := d) (g := g) h.oN h.oL h.ep h.p5 h.er h.r8 hp hj (by rw [h.bn 1 (by decide)]; exact hw) hw8
  unfold inX ltX at this
  rw [h.bn 2 (by decide), h.bn 1 (by decide), h.bl.1 3 (by decide), h.bl.1 5 (by decide), h.bl.1 6 (by decide), show f L = l 0 from h.bl.1 0 (by decide), show f n = V 0 from h.bn 0 (by decide)] at this
  exact this
theorem c_canSpeak (h : cX s R f n L l V N P) (hp : p < P) : ur_call ur_G (d + 2) 54 [.ref n, .ref L, .int (nI p)] (s, f, g, R) = some (ur_b (skV l V p), (s, f, g, R)) := by
  have := s_canSpeak (d := d) (g := g) h.oN h.oL h.ep h.p5 hp
  unfold inX at this
  rw [h.bn 2 (by decide), h.bn 4 (by decide), h.bl.1 5 (by decide), show f n = V 0 from h.bn 0 (by decide)] at this
  exact this
theorem c_stayOf (h : cX s R f n L l V N P) (hE : lwX l E) (hp : p < P) (hj : j < N) : ∃ f', ur_call ur_G (d + 4) 53 [.ref n, .ref L, .int (nI p), .int (nI j), .int r] (s, f, g, R) = some (syV E l V p j r, (s, f', g, R)) ∧ eqT (TL L) f f' := by
  have h8 := h.r8
  have h5 := h.p5
  obtain ⟨z, hz, e2, ev⟩ := hE
  obtain ⟨f1, c1, c2⟩ := s_valueOf (d := d) (g := g) (u := l 2 j) (t := V 4 p) (y := l 6 p) (n := r) h.oL.oLaw8 (h.bl.2.1.trans e2) hz h.bl.2.2
  rw [ev] at c1
  refine ⟨f1, ur_cl h.oN.rcv rfl (e_X5_stayOf_0 _ _ _ _ _ _ ?_), c2.mono (fun a k z => by unfold TK at z; unfold TL; omega)⟩
  simp only [h.oL.r7, h.oL.r1, h.oL.a2 (show j < 8 by omega), h.oN.r3, h.oN.a4 (show p < 5 by omega), h.oL.r5, h.oL.a6 (show p < 5 by omega), Option.bind_some, h.bn 4 (by decide), h.bl.1 2 (by decide), h.bl.1 6 (by decide), c1, cl30_mx]
  rfl
theorem c_tryWalk (h : cX s R f n L l V N P) (hp : p < P) (hj : j < N) (hw : V 1 p = nI w) (hw8 : w < 8) : ∃ f', ur_call ur_G (d + 4) 49 [.ref n, .ref L, .int (nI p), .int (nI j)] (s, f, g, R) = some (ur_b (wkV l V p j w), (s, f', g, R)) ∧ bN f' n (bif wkV l V p j w then twV V p j else V) ∧ eqT (TNL n L) f f' := by
  have h5 := h.p5
  have hc := c_canWalk (d := d) (g := g) h hp hj hw hw8
  cases hq : wkV l V p j w with
  | false =>
    rw [hq] at hc
    refine ⟨f, ur_cl h.oN.rcv rfl (e_X5_tryWalk_0 _ _ _ _ _ ?_), h.bn, eqT.refl⟩
    simp only [hc, Option.bind_some, ub_n0, cond_false]
    rfl
  | true =>
    rw [hq] at hc
    refine ⟨ur_u f (n + 1) p (nI j), ur_cl h.oN.rcv rfl (e_X5_tryWalk_0 _ _ _ _ _ ?_), h.bn.u 1 p _, eqT_u (Or.inl (by unfold TN; omega))⟩
    simp only [hc, Option.bind_some, ub_n0, cond_true, h.oN.r0, h.oN.w1 (show p < 5 by omega)]
    rfl
theorem c_tryShow (h : cX s R f n L l V N P) (hE : lwX l E) (hp : p < P) (hj : j < N) (hw : V 1 p = nI w) (hw8 : w < 8) : ∃ f', ur_call ur_G (d + 5) 52 [.ref n, .ref L, .int (nI p), .int (nI j)] (s, f, g, R) = some (bif shV l V P p j w then syV E l V p j (V 0 7) else -1, (s, f', g, R)) ∧ bN f' n (bif shV l V P p j w then tsV V p j (syV E l V p j (V 0 7)) else V) ∧ eqT (TNL n L) f f' := by
  have h5 := h.p5
  have hd := h.dd
  have hc := c_canShow (d := d + 1) (g := g) h hp hj hw hw8
  cases hq : shV l V P p j w with
  | false =>
    rw [hq] at hc
    refine ⟨f, ur_cl h.oN.rcv rfl (e_X5_tryShow_0 _ _ _ _ _ ?_), h.bn, eqT.refl⟩
    simp only [hc, Option.bind_some, ub_n0, cond_false]
  | true =>
    rw [hq] at hc
    obtain ⟨f1, c1, c2⟩ := c_stayOf (d := d) (g := g) (r := V 0 7) h hE hp hj
    have b1 : bN f1 n V := h.bn.fr c2 (fun i k hi z => by unfold TL at z; omega)
    have h1 : f1 (n + 1) = V 1 := b1 1 (by decide)
    have h4 : f1 (n + 4) = V 4 := b1 4 (by decide)
    refine ⟨ur_u (ur_u (ur_u (ur_u f1 (n + 3) p (V 1 p)) (n + 1) p (nI j)) (n + 2) p (syV E l V p j (V 0 7))) (n + 4) p (V 4 p + 1), ur_cl h.oN.rcv rfl (e_X5_tryShow_0 _ _ _ _ _ ?_), (((b1.u 3 p _).u 1 p _).u 2 p _).u 4 p _, ?_⟩
    · simp only [hc, Option.bind_some, ub_n0, cond_true, h.oN.I, show f n = V 0 from h.bn 0 (by decide), c1, h.oN.r2, h.oN.r0, h.oN.a1 (show p < 5 by omega), h1, h.oN.w3 (show p < 5 by omega), h.oN.w1 (show p < 5 by omega), h.oN.r1, h.oN.w2 (show p < 5 by omega), h.oN.r3, h.oN.a4 (show p < 5 by omega), ur_uo, Nat.reduceBEq, h4, h.oN.w4 (show p < 5 by omega)]
    · have t : eqT (TNL n L) f f1 := c2.mono (fun a k z => Or.inr z)
      exact (((t.u (Or.inl (by unfold TN; omega))).u (Or.inl (by unfold TN; omega))).u (Or.inl (by unfold TN; omega))).u (Or.inl (by unfold TN; omega))
theorem c_trySpeak (h : cX s R f n L l V N P) (hp : p < P) : ∃ f', ur_call ur_G (d + 3) 55 [.ref n, .ref L, .int (nI p)] (s, f, g, R) = some (ur_b (skV l V p), (s, f', g, R)) ∧ bN f' n (bif skV l V p then tpV V p else V) ∧ eqT (TNL n L) f f' := by
  have h5 := h.p5
  have hc := c_canSpeak (d := d) (g := g) h hp
  cases hq : skV l V p with
  | false =>
    rw [hq] at hc
    refine ⟨f, ur_cl h.oN.rcv rfl (e_X5_trySpeak_0 _ _ _ _ ?_), h.bn, eqT.refl⟩
    simp only [hc, Option.bind_some, ub_n0, cond_false]
    rfl
  | true =>
    rw [hq] at hc
    refine ⟨ur_u (ur_u (ur_u f n 5 (V 0 5 ||| ((1 : Int32) <<< (nI p &&& 31)))) (n + 4) p 0) (n + 5) p 0, ur_cl h.oN.rcv rfl (e_X5_trySpeak_0 _ _ _ _ ?_), ((h.bn.u 0 5 _).u 4 p _).u 5 p _, ?_⟩
    · simp only [hc, Option.bind_some, ub_n0, cond_true, h.oN.I, show f n = V 0 from h.bn 0 (by decide), h.oN.pI, h.oN.r3, h.oN.w4 (show p < 5 by omega), h.oN.r4, h.oN.w5 (show p < 5 by omega)]
      rfl
    · exact ((eqT_u (T := TNL n L) (Or.inl (by unfold TN; omega))).u (Or.inl (by unfold TN; omega))).u (Or.inl (by unfold TN; omega))
theorem c_flamesFrom (h : cX s R f n L l V N P) (hj : j < N) : ur_call ur_G (d + 4) 56 [.ref n, .ref L, .int (nI j)] (s, f, g, R) = some (flV l V N P j, (s, f, g, R)) := by
  have h5 := h.p5
  have h8 := h.r8
  refine ur_cl h.oN.rcv rfl (e_X5_flamesFrom_0 _ _ _ _ ?_)
  simp only [s_hasRoom h.oL h.er, inR_in hj (show N < 2 ^ 31 by omega), Option.bind_some, ub_n0, cond_true, s_saidRooms h.oL, h.oN.I, show f n = V 0 from h.bn 0 (by decide), show f L = l 0 from h.bl.1 0 (by decide)]
  refine itr_loop (step := fun q (a : Int32) => a &&& (((1 : Int32) <<< (V 1 q &&& 31)) ^^^ (-1))) (n := P) (Fn := fun q a => ur_at ur_G (d + 3) 56 (25, [some (.ref n), some (.ref L), some (.int (nI j)), some (.int a), some (.int (nI q))], [], (s, f, g, R))) (fun q a hq h' => ?_) P _ (Nat.le_refl P) ?_
  · refine e_X5_flamesFrom_25 _ _ _ _ _ _ ?_
    simp only [h.oL.I, Option.bind_some, h.ep, d_le (show P < 2 ^ 31 by omega) (show q < 2 ^ 31 by omega), decide_eq_false (show ¬ P ≤ q by omega), cond_false, h.oN.r0, h.oN.a1 (show q < 5 by omega), h.bn 1 (by decide), nI_1]
    exact h'
  · refine e_X5_flamesFrom_25 _ _ _ _ _ _ ?_
    simp only [h.oL.I, Option.bind_some, h.ep, d_le (show P < 2 ^ 31 by omega) (show P < 2 ^ 31 by omega), Nat.le_refl, decide_true, cond_true, s_spread h.oL h.er h.r8, h.bl.1 3 (by decide)]
    rfl
theorem c_flamesFrom_out (h : cX s R f n L l V N P) (hx : inR x N = false) : ur_call ur_G (d + 4) 56 [.ref n, .ref L, .int x] (s, f, g, R) = some (0, (s, f, g, R)) := by
  refine ur_cl h.oN.rcv rfl (e_X5_flamesFrom_0 _ _ _ _ ?_)
  simp only [s_hasRoom h.oL h.er, hx, Option.bind_some, ub_n0, cond_false]
theorem c_tryBurn (h : cX s R f n L l V N P) (hj : j < N) : ∃ f', ur_call ur_G (d + 5) 57 [.ref n, .ref L, .int (nI j)] (s, f, g, R) = some (bif decide (flV l V N P j ≠ 0) then bc32 (flV l V N P j) else -1, (s, f', g, R)) ∧ bN f' n (ur_u V 0 6 (V 0 6 ||| flV l V N P j)) ∧ eqT (TNL n L) f f' := by
  refine ⟨ur_u f n 6 (V 0 6 ||| flV l V N P j), ur_cl h.oN.rcv rfl (e_X5_tryBurn_0 _ _ _ _ ?_), h.bn.u 0 6 _, eqT_u (Or.inl (by unfold TN; omega))⟩
  simp only [c_flamesFrom h hj, Option.bind_some, h.oN.I, show f n = V 0 from h.bn 0 (by decide), h.oN.pI, u_bc]
  cases decide (flV l V N P j ≠ 0) <;> rfl
theorem c_passMinute (h : cX s R f n L l V N P) (hok : okV l V P) : ∃ f', ur_call ur_G (d + 4) 58 [.ref n, .ref L] (s, f, g, R) = some ((pasV l P V).1, (s, f', g, R)) ∧ bN f' n (pasV l P V).2 ∧ eqT (TNL n L) f f' := by
  obtain ⟨f1, c1, c2, c3⟩ := s_passMinute (d := d) (g := g) h.oN h.oL h.bn h.bl h.dd h.2.2.2.2.2.2.2.1 h.p5 hok
  exact ⟨f1, c1, c2, c3.mono (fun a k z => Or.inl z)⟩
/-- what a line tells: 0 walk, 1 show, 2 speak, 3 burn, 4 minute -/
def foV (E : Int32 → Int32 → Int32 → Int32 → Int32) (l V : Nat → Nat → Int32) (N P k p j : Nat) : Bool × (Nat → Nat → Int32) :=
  match k with
  | 0 => (wkV l V p j (ix (V 1 p)), bif wkV l V p j (ix (V 1 p)) then twV V p j else V)
  | 1 => (shV l V P p j (ix (V 1 p)), bif shV l V P p j (ix (V 1 p)) then tsV V p j (syV E l V p j (V 0 7)) else V)
  | 2 => (skV l V p, bif skV l V p then tpV V p else V)
  | 3 => (decide (flV l V N P j ≠ 0), ur_u V 0 6 (V 0 6 ||| flV l V N P j))
  | _ => (true, (pasV l P V).2)
/-- a line that can be told: of a person where it has one, of a room where it has one -/
def lnX (N P k : Nat) (x y : Int32) (p j : Nat) : Prop := (k < 3 → p < P ∧ x = nI p) ∧ ((k = 0 ∨ k = 1 ∨ k = 3) → j < N ∧ y = nI j) ∧ k < 5
theorem bc_ne (h : sm8 x) (h0 : x ≠ 0) : bc32 x ≠ -1 := by
  obtain ⟨k, hk, rfl⟩ := sm8_nI h
  exact (by decide +kernel : ∀ k, k < 256 → bc32 (nI k) ≠ -1) k hk
theorem c_follow (h : cX s R f n L l V N P) (hE : lwX l E) (hok : okV l V P) (hst : ∀ p, p < P → ∃ w, w < 8 ∧ V 1 p = nI w) (hfl : ∀ j, j < N → sm8 (flV l V N P j)) {k : Nat} (hk : lnX N P k x y p j) : ∃ f', ur_call ur_G (d + 6) 61 [.ref n, .ref L, .int (nI (108 + k)), .int x, .int y] (s, f, g, R) = some (ur_b (foV E l V N P k p j).1, (s, f', g, R)) ∧ bN f' n (foV E l V N P k p j).2 ∧ eqT (TNL n L) f f' := by
  obtain ⟨k1, k2, k5⟩ := hk
  match k, k1, k2, k5 with
  | 0, k1, k2, _ =>
    obtain ⟨hp, rfl⟩ := k1 (by decide)
    obtain ⟨hj, rfl⟩ := k2 (Or.inl rfl)
    obtain ⟨w, hw8, hw⟩ := hst p hp
    obtain ⟨f1, c1, c2, c3⟩ := c_tryWalk (d := d + 1) (g := g) h hp hj hw hw8
    have hix : ix (V 1 p) = w := by rw [hw, ix_nI (by omega)]
    refine ⟨f1, ur_cl h.oN.rcv rfl (e_X5_follow_0 _ _ _ _ _ _ ?_), by show bN f1 n (bif wkV l V p j (ix (V 1 p)) then _ else _); rw [hix]; exact c2, c3⟩
    rw [show decide (nI (108 + 0) = (108 : Int32)) = true from by decide, cond_true, c1, Option.bind_some, ub_fit, cond_true]
    show _ = some (ur_b (wkV l V p j (ix (V 1 p))), _)
    rw [hix]
  | 1, k1, k2, _ =>
    obtain ⟨hp, rfl⟩ := k1 (by decide)
    obtain ⟨hj, rfl⟩ := k2 (Or.inr (Or.inl rfl))
    obtain ⟨w, hw8, hw⟩ := hst p hp
    obtain ⟨f1, c1, c2, c3⟩ := c_tryShow (d := d) (g := g) h hE hp hj hw hw8
    have hix : ix (V 1 p) = w := by rw [hw, ix_nI (by omega)]
    refine ⟨f1, ur_cl h.oN.rcv rfl (e_X5_follow_0 _ _ _ _ _ _ ?_), by show bN f1 n (bif shV l V P p j (ix (V 1 p)) then _ else _); rw [hix]; exact c2, c3⟩
    rw [show decide (nI (108 + 1) = (108 : Int32)) = false from by decide, cond_false, show decide (nI (108 + 1) = (109 : Int32)) = true from by decide, cond_true, c1, Option.bind_some]
    show _ = some (ur_b (shV l V P p j (ix (V 1 p))), _)
    rw [hix]
    cases shV l V P p j w with
    | false => rfl
    | true =>
      obtain ⟨m, m1, m2, m3⟩ := cl30_is (E (l 2 j) (V 4 p) (l 6 p) (V 0 7))
      have : syV E l V p j (V 0 7) = nI m := m3
      simp only [cond_true]
      rw [this, decide_eq_false (nI_ne_m1 (by omega))]
      rfl
  | 2, k1, k2, _ =>
    obtain ⟨hp, rfl⟩ := k1 (by decide)
    obtain ⟨f1, c1, c2, c3⟩ := c_trySpeak (d := d + 2) (g := g) h hp
    refine ⟨f1, ur_cl h.oN.rcv rfl (e_X5_follow_0 _ _ _ _ _ _ ?_), c2, c3⟩
    rw [show decide (nI (108 + 2) = (108 : Int32)) = false from by decide, cond_false, show decide (nI (108 + 2) = (109 : Int32)) = false from by decide, cond_false, show decide (nI (108 + 2) = (110 : Int32)) = true from by decide, cond_true, c1, Option.bind_some, ub_fit, cond_true]
    rfl
  | 3, k1, k2, _ =>
    obtain ⟨hj, rfl⟩ := k2 (Or.inr (Or.inr rfl))
    obtain ⟨f1, c1, c2, c3⟩ := c_tryBurn (d := d) (g := g) h hj
    refine ⟨f1, ur_cl h.oN.rcv rfl (e_X5_follow_0 _ _ _ _ _ _ ?_), c2, c3⟩
    rw [show decide (nI (108 + 3) = (108 : Int32)) = false from by decide, cond_false, show decide (nI (108 + 3) = (109 : Int32)) = false from by decide, cond_false, show decide (nI (108 + 3) = (110 : Int32)) = false from by decide, cond_false, show decide (nI (108 + 3) = (111 : Int32)) = true from by decide, cond_true, c1, Option.bind_some]
    show _ = some (ur_b (decide (flV l V N P j ≠ 0)), _)
    by_cases h0 : flV l V N P j = 0
    · simp only [decide_eq_false (show ¬ flV l V N P j ≠ 0 from fun z => z h0), cond_false]; rfl
    · simp only [decide_eq_true (show flV l V N P j ≠ 0 from h0), cond_true]
      rw [decide_eq_false (bc_ne (hfl j hj) h0)]
      rfl
  | 4, k1, k2, _ =>
    obtain ⟨f1, c1, c2, c3⟩ := c_passMinute (d := d + 1) (g := g) h hok
    refine ⟨f1, ur_cl h.oN.rcv rfl (e_X5_follow_0 _ _ _ _ _ _ ?_), c2, c3⟩
    rw [show decide (nI (108 + 4) = (108 : Int32)) = false from by decide, cond_false, show decide (nI (108 + 4) = (109 : Int32)) = false from by decide, cond_false, show decide (nI (108 + 4) = (110 : Int32)) = false from by decide, cond_false, show decide (nI (108 + 4) = (111 : Int32)) = false from by decide, cond_false, c1, Option.bind_some]
    rfl
  | k + 5, _, _, k5 => exact absurd k5 (by omega)
end URX2

/-! CALLS THAT ASK: person, may, goes, stay, been, widows, longest, as, count -/
def myV (l V : Nat → Nat → Int32) (N P p : Nat) : Int32 := sB (fun j => shV l V P p j (ix (V 1 p))) N
def goV (l V : Nat → Nat → Int32) (N p : Nat) : Int32 := sB (fun j => wkV l V p j (ix (V 1 p))) N
def wdV (l V : Nat → Nat → Int32) (N P : Nat) : Int32 := sB (fun p => !inV V p && (decide (goV l V N p = 0) && decide (myV l V N P p = 0))) P
def lgS (V : Nat → Nat → Int32) (p : Nat) (x : Int32 × Int32) : Int32 × Int32 := bif decide (V 5 p ≤ x.2) then x else (nI p, V 5 p)
def lgV (V : Nat → Nat → Int32) (k : Nat) : Int32 × Int32 := itr (lgS V) k (-1, 0)
def asS (V : Nat → Nat → Int32) (p o : Nat) (a : Int32) : Int32 := a + (bif !decide (V 5 p ≤ 0) && decide (V 5 p = V 5 o) then 1 else 0)
def asV (V : Nat → Nat → Int32) (P : Nat) : Int32 := itr (fun p a => itr (asS V p) p a) P 0
theorem lgV_inv (V : Nat → Nat → Int32) : ∀ k, ((lgV V k).1 = -1 ∧ (lgV V k).2 = 0) ∨ ∃ q, q < k ∧ (lgV V k).1 = nI q ∧ (lgV V k).2 = V 5 q
  | 0 => Or.inl ⟨rfl, rfl⟩
  | k + 1 => by
    have e : lgV V (k + 1) = bif decide (V 5 k ≤ (lgV V k).2) then lgV V k else (nI k, V 5 k) := rfl
    rw [e]
    cases decide (V 5 k ≤ (lgV V k).2) with
    | true =>
      rcases lgV_inv V k with h | ⟨q, h1, h2, h3⟩
      · exact Or.inl h
      · exact Or.inr ⟨q, by omega, h2, h3⟩
    | false => exact Or.inr ⟨k, by omega, rfl, rfl⟩
theorem or_eq0 (x y : Int32) : decide (x ||| y ≠ 0) = !(decide (x = 0) && decide (y = 0)) := by
  by_cases hx : x = 0
  · rw [hx, decide_eq_true (show (0 : Int32) = 0 from rfl), Bool.true_and, show (0 : Int32) ||| y = y from b_ext (fun i _ => by rw [b_or, b_0, Bool.false_or])]
    by_cases hy : y = 0
    · rw [decide_eq_true hy, decide_eq_false (fun z => z hy)]; rfl
    · rw [decide_eq_false hy, decide_eq_true hy]; rfl
  · rw [decide_eq_false hx, Bool.false_and, Bool.not_false]
    apply decide_eq_true
    intro z
    apply hx
    apply b_ext
    intro i hi
    have := congrArg (fun t => bt t i) z
    rw [b_or, b_0] at this
    rw [b_0]
    cases h : bt x i with
    | false => rfl
    | true => rw [h] at this; cases this
section URK2
variable {s : List (Nat ⊕ (Nat × Nat))} {f f' f1 f2 l V V' : Nat → Nat → Int32} {g : Nat → Nat → Int64} {R : Nat → Nat → Option Nat} {L L' K K' D d b j p P N w n k k' : Nat} {U r x y z : Int32} {E : Int32 → Int32 → Int32 → Int32 → Int32} {as : List Value}
theorem x_may (h : xC s R f L L' K K' l V N P E) (hp : p < P) : ur_call ur_G (d + 4) 103 [.ref 0, .int (nI p)] (s, f, g, R) = some (myV l V N P p, (s, f, g, R)) := by
  obtain ⟨hX, hc, hE, hw⟩ := h
  have h8 := hc.r8
  obtain ⟨w, hw8, hw1⟩ := hw.st p hp
  refine ur_cl hX.rcv rfl (e_X9_roomsToBeShown_0 _ _ _ ?_)
  refine sB_loop (P := fun j => shV l V P p j (ix (V 1 p))) (n := N) (Fn := fun j x => ur_at ur_G (d + 3) 103 (4, [some (.ref 0), some (.int (nI p)), some (.int x), some (.int (nI j))], [], (s, f, g, R))) (fun j x hj h' => ?_) ?_
  · rw [hw1, ix_nI (by omega)] at h'
    refine e_X9_roomsToBeShown_4 _ _ _ _ _ ?_
    simp only [hX.r1, hX.r5, hc.oL.I, hc.er, Option.bind_some, d_le (show N < 2 ^ 31 by omega) (show j < 2 ^ 31 by omega), decide_eq_false (show ¬ N ≤ j by omega), cond_false, c_canShow hc hp hj hw1 hw8, ub_0, nI_1]
    cases hq : shV l V P p j w with
    | true => rw [hq] at h'; exact h'
    | false => rw [hq] at h'; simp only [cond_false, i_or0] at h'; exact h'
  · refine e_X9_roomsToBeShown_4 _ _ _ _ _ ?_
    simp only [hX.r1, hc.oL.I, hc.er, Option.bind_some, d_le (show N < 2 ^ 31 by omega) (show N < 2 ^ 31 by omega), Nat.le_refl, decide_true, cond_true]
    rfl
theorem x_goes (h : xC s R f L L' K K' l V N P E) (hp : p < P) : ur_call ur_G (d + 4) 105 [.ref 0, .int (nI p)] (s, f, g, R) = some (goV l V N p, (s, f, g, R)) := by
  obtain ⟨hX, hc, hE, hw⟩ := h
  have h8 := hc.r8
  obtain ⟨w, hw8, hw1⟩ := hw.st p hp
  refine ur_cl hX.rcv rfl (e_X9_roomsToWalkTo_0 _ _ _ ?_)
  refine sB_loop (P := fun j => wkV l V p j (ix (V 1 p))) (n := N) (Fn := fun j x => ur_at ur_G (d + 3) 105 (4, [some (.ref 0), some (.int (nI p)), some (.int x), some (.int (nI j))], [], (s, f, g, R))) (fun j x hj h' => ?_) ?_
  · rw [hw1, ix_nI (by omega)] at h'
    refine e_X9_roomsToWalkTo_4 _ _ _ _ _ ?_
    simp only [hX.r1, hX.r5, hc.oL.I, hc.er, Option.bind_some, d_le (show N < 2 ^ 31 by omega) (show j < 2 ^ 31 by omega), decide_eq_false (show ¬ N ≤ j by omega), cond_false, c_canWalk hc hp hj hw1 hw8, ub_0, nI_1]
    cases hq : wkV l V p j w with
    | true => rw [hq] at h'; exact h'
    | false => rw [hq] at h'; simp only [cond_false, i_or0] at h'; exact h'
  · refine e_X9_roomsToWalkTo_4 _ _ _ _ _ ?_
    simp only [hX.r1, hc.oL.I, hc.er, Option.bind_some, d_le (show N < 2 ^ 31 by omega) (show N < 2 ^ 31 by omega), Nat.le_refl, decide_true, cond_true]
    rfl
theorem m_mayOf (h : cM s R f b l V N P E) (hp : p < P) : ur_call ur_G (d + 4) 219 [.ref b, .int (nI p)] (s, f, g, R) = some (myV l V N P p, (s, f, g, R)) := by
  have h8 := h.r8
  have hM := h.oM
  obtain ⟨w, hwN, hw8, hw1, -⟩ := h.wh hp
  have a0 : ur_aI (s, f, g, R) (b + 2) 0 0 = some (f (b + 2) 0) := hM.a2 (show 0 < 6 by decide)
  refine ur_cl hM.rcv rfl (e_X10_mayOf_0 _ _ _ ?_)
  refine sB_loop (P := fun j => shV l V P p j (ix (V 1 p))) (n := N) (Fn := fun j x => ur_at ur_G (d + 3) 219 (4, [some (.ref b), some (.int (nI p)), some (.int x), some (.int (nI j))], [], (s, f, g, R))) (fun j x hj h' => ?_) ?_
  · rw [hw1, ix_nI (by omega)] at h'
    refine e_X10_mayOf_4 _ _ _ _ _ ?_
    simp only [hM.r10, a0, h.er, Option.bind_some, d_le (show N < 2 ^ 31 by omega) (show j < 2 ^ 31 by omega), decide_eq_false (show ¬ N ≤ j by omega), cond_false, m_canShow h hp hj hw1 hwN, ub_0, nI_1]
    cases hq : shV l V P p j w with
    | true => rw [hq] at h'; exact h'
    | false => rw [hq] at h'; exact h'
  · refine e_X10_mayOf_4 _ _ _ _ _ ?_
    simp only [hM.r10, a0, h.er, Option.bind_some, d_le (show N < 2 ^ 31 by omega) (show N < 2 ^ 31 by omega), Nat.le_refl, decide_true, cond_true]
    rfl
theorem m_goesV (h : cM s R f b l V N P E) (hp : p < P) : ur_call ur_G (d + 3) 193 [.ref b, .int (nI p)] (s, f, g, R) = some (goV l V N p, (s, f, g, R)) := by
  have h8 := h.r8
  obtain ⟨w, hwN, hw8, hw1, -⟩ := h.wh hp
  obtain ⟨v, c1, c2, c3⟩ := m_goesBit (d := d) (g := g) h hp hw1 hwN
  rw [c1]
  congr 2
  apply b_ext
  intro i hi
  unfold goV
  rw [sB_bt _ N (by omega) i hi, hw1, ix_nI (by omega)]
  by_cases hiN : i < N
  · rw [decide_eq_true hiN, Bool.true_and, c2 i hiN]
  · rw [decide_eq_false hiN, Bool.false_and, c3 i (by omega) hi]
theorem j_may (h : JV s R f g L L' K K' l V N P E) : JQ s R f g (d + 60) 102 220 [.int x] := by
  have hX := h.oX
  have hc := h.cX
  have h5 := h.p5
  rcases inR_c x (show P < 2 ^ 31 by omega) with ⟨p, hp, rfl⟩ | hx
  · refine jq_mk h (fun V => myV l V N P p) ⟨V, f, reqv.refl, ur_cl hX.rcv rfl (e_X9_may_0 _ _ _ ?_), eqT.refl⟩ (fun V' f1 hM => ⟨ur_u f1 208 0 0, ur_cl hM.oM.rcv rfl (e_X10_may_0 _ _ _ ?_), eqT_u SR_0⟩)
    · simp only [hX.r1, Option.bind_some, s_hasPerson hc.oL hc.ep, inR_in hp (show P < 2 ^ 31 by omega), x_may h.xC hp]; rfl
    · simp only [hM.oM.pI, Option.bind_some, t_isPerson hM.oM (m_thr hM).ep, inR_in hp (show P < 2 ^ 31 by omega), m_mayOf (m_thr hM) hp]; rfl
  · refine jq_mk h (fun V => -1) ⟨V, f, reqv.refl, ur_cl hX.rcv rfl (e_X9_may_0 _ _ _ ?_), eqT.refl⟩ (fun V' f1 hM => ⟨ur_u f1 208 0 0, ur_cl hM.oM.rcv rfl (e_X10_may_0 _ _ _ ?_), eqT_u SR_0⟩)
    · simp only [hX.r1, Option.bind_some, s_hasPerson hc.oL hc.ep, hx]; rfl
    · simp only [hM.oM.pI, Option.bind_some, t_isPerson hM.oM (m_thr hM).ep, hx]; rfl
theorem j_goes (h : JV s R f g L L' K K' l V N P E) : JQ s R f g (d + 60) 104 221 [.int x] := by
  have hX := h.oX
  have hc := h.cX
  have h5 := h.p5
  rcases inR_c x (show P < 2 ^ 31 by omega) with ⟨p, hp, rfl⟩ | hx
  · refine jq_mk h (fun V => goV l V N p) ⟨V, f, reqv.refl, ur_cl hX.rcv rfl (e_X9_goes_0 _ _ _ ?_), eqT.refl⟩ (fun V' f1 hM => ⟨ur_u f1 208 0 0, ur_cl hM.oM.rcv rfl (e_X10_goes_0 _ _ _ ?_), eqT_u SR_0⟩)
    · simp only [hX.r1, Option.bind_some, s_hasPerson hc.oL hc.ep, inR_in hp (show P < 2 ^ 31 by omega), x_goes h.xC hp]; rfl
    · simp only [hM.oM.pI, Option.bind_some, t_isPerson hM.oM (m_thr hM).ep, inR_in hp (show P < 2 ^ 31 by omega), m_goesV (m_thr hM) hp]; rfl
  · refine jq_mk h (fun V => -1) ⟨V, f, reqv.refl, ur_cl hX.rcv rfl (e_X9_goes_0 _ _ _ ?_), eqT.refl⟩ (fun V' f1 hM => ⟨ur_u f1 208 0 0, ur_cl hM.oM.rcv rfl (e_X10_goes_0 _ _ _ ?_), eqT_u SR_0⟩)
    · simp only [hX.r1, Option.bind_some, s_hasPerson hc.oL hc.ep, hx]; rfl
    · simp only [hM.oM.pI, Option.bind_some, t_isPerson hM.oM (m_thr hM).ep, hx]; rfl
theorem j_stay (h : JV s R f g L L' K K' l V N P E) : JQ s R f g (d + 60) 106 222 [.int x, .int y] := by
  have hX := h.oX
  have hc := h.cX
  have h5 := h.p5
  have h8 := h.r8
  rcases inR_c x (show P < 2 ^ 31 by omega) with ⟨p, hp, rfl⟩ | hx
  · have eP : ur_call ur_G (d + 59) 4 [.ref L, .int (nI p)] (s, f, g, R) = some (1, (s, f, g, R)) := by
      rw [s_hasPerson hc.oL hc.ep, inR_in hp (by omega)]; rfl
    have mP : ∀ V' f1, cM s R f1 208 l V' N P E → ur_call ur_G (d + 59) 180 [.ref 208, .int (nI p)] (s, ur_u f1 208 0 0, g, R) = some (1, (s, ur_u f1 208 0 0, g, R)) := fun V' f1 hM => by
      rw [t_isPerson hM.oM (m_thr hM).ep, inR_in hp (by omega)]; rfl
    rcases inR_c y (show N < 2 ^ 31 by omega) with ⟨j, hj, rfl⟩ | hy
    · cases hu : bt (l 0 9) j with
      | true =>
        obtain ⟨f1, c1, c2⟩ := c_stayOf (d := d + 55) (g := g) (r := V 0 7) hc h.lw hp hj
        refine jq_mk h (fun V => syV E l V p j (V 0 7)) ⟨V, f1, reqv.refl, ur_cl hX.rcv rfl (e_X9_stay_0 _ _ _ _ ?_), c2.mono (TL_SX hX.eL)⟩ (fun V' f1 hM => ?_)
        · simp only [hX.r1, hX.r5, Option.bind_some, eP, c_uns hc hj, hu, hc.oN.I, hc.f0, c1]; rfl
        · have h0 := m_thr hM
          obtain ⟨f2, d1, d2, d3⟩ := m_stayOf (d := d + 55) (g := g) (r := V' 0 7) h0 hp hj
          refine ⟨f2, ur_cl hM.oM.rcv rfl (e_X10_stay_0 _ _ _ _ ?_), (eqT_u SR_0).trans (d3.mono (fun a k z => by unfold TV at z; unfold SR; omega))⟩
          have a1 : ur_aI (s, ur_u f1 208 0 0, g, R) (208 + 33) 0 1 = some (ur_u f1 208 0 0 (208 + 33) 1) := hM.oM.a33 (show 1 < 29 by decide)
          simp only [hM.oM.pI, Option.bind_some, mP V' f1 hM, m_uns h0 hj, hu, hM.oM.r44, a1, h0.hn.1.2.1, d1]; rfl
      | false =>
        refine jq_mk h (fun V => -1) ⟨V, f, reqv.refl, ur_cl hX.rcv rfl (e_X9_stay_0 _ _ _ _ ?_), eqT.refl⟩ (fun V' f1 hM => ⟨ur_u f1 208 0 0, ur_cl hM.oM.rcv rfl (e_X10_stay_0 _ _ _ _ ?_), eqT_u SR_0⟩)
        · simp only [hX.r1, Option.bind_some, eP, c_uns hc hj, hu]; rfl
        · simp only [hM.oM.pI, Option.bind_some, mP V' f1 hM, m_uns (m_thr hM) hj, hu]; rfl
    · refine jq_mk h (fun V => -1) ⟨V, f, reqv.refl, ur_cl hX.rcv rfl (e_X9_stay_0 _ _ _ _ ?_), eqT.refl⟩ (fun V' f1 hM => ⟨ur_u f1 208 0 0, ur_cl hM.oM.rcv rfl (e_X10_stay_0 _ _ _ _ ?_), eqT_u SR_0⟩)
      · simp only [hX.r1, Option.bind_some, eP, c_uns_out hc hy]; rfl
      · simp only [hM.oM.pI, Option.bind_some, mP V' f1 hM, m_uns_out (m_thr hM) hy]; rfl
  · refine jq_mk h (fun V => -1) ⟨V, f, reqv.refl, ur_cl hX.rcv rfl (e_X9_stay_0 _ _ _ _ ?_), eqT.refl⟩ (fun V' f1 hM => ⟨ur_u f1 208 0 0, ur_cl hM.oM.rcv rfl (e_X10_stay_0 _ _ _ _ ?_), eqT_u SR_0⟩)
    · simp only [hX.r1, Option.bind_some, s_hasPerson hc.oL hc.ep, hx]; rfl
    · simp only [hM.oM.pI, Option.bind_some, t_isPerson hM.oM (m_thr hM).ep, hx]; rfl
theorem j_been (h : JV s R f g L L' K K' l V N P E) : JQ s R f g (d + 60) 119 236 [.int x] := by
  have hX := h.oX
  have hc := h.cX
  have h5 := h.p5
  rcases inR_c x (show P < 2 ^ 31 by omega) with ⟨p, hp, rfl⟩ | hx
  · refine jq_mk h (fun V => V 5 p) ⟨V, f, reqv.refl, ur_cl hX.rcv rfl (e_X9_been_0 _ _ _ ?_), eqT.refl⟩ (fun V' f1 hM => ⟨ur_u f1 208 0 0, ur_cl hM.oM.rcv rfl (e_X10_been_0 _ _ _ ?_), eqT_u SR_0⟩)
    · simp only [hX.r1, hX.r5, Option.bind_some, s_hasPerson hc.oL hc.ep, inR_in hp (show P < 2 ^ 31 by omega), hc.oN.r4, hc.oN.a5 (show p < 5 by omega), hc.bn 5 (by decide)]; rfl
    · simp only [hM.oM.pI, Option.bind_some, t_isPerson hM.oM (m_thr hM).ep, inR_in hp (show P < 2 ^ 31 by omega), hM.oM.r44, show (24 : Int32) + nI p = nI (24 + p) from nI_add 24 p, hM.oM.a33 (show 24 + p < 29 by omega), ((m_thr hM).hn.2.1 p hp).2.2.2]; rfl
  · refine jq_mk h (fun V => -1) ⟨V, f, reqv.refl, ur_cl hX.rcv rfl (e_X9_been_0 _ _ _ ?_), eqT.refl⟩ (fun V' f1 hM => ⟨ur_u f1 208 0 0, ur_cl hM.oM.rcv rfl (e_X10_been_0 _ _ _ ?_), eqT_u SR_0⟩)
    · simp only [hX.r1, Option.bind_some, s_hasPerson hc.oL hc.ep, hx]; rfl
    · simp only [hM.oM.pI, Option.bind_some, t_isPerson hM.oM (m_thr hM).ep, hx]; rfl
theorem j_widows (h : JV s R f g L L' K K' l V N P E) : JQ s R f g (d + 60) 123 223 [] := by
  have hX := h.oX
  have hc := h.cX
  have h5 := h.p5
  refine jq_mk h (fun V => wdV l V N P) ⟨V, f, reqv.refl, ur_cl hX.rcv rfl (e_X9_widows_0 _ _ ?_), eqT.refl⟩ (fun V' f1 hM => ⟨ur_u f1 208 0 0, ur_cl hM.oM.rcv rfl (e_X10_widows_0 _ _ ?_), eqT_u SR_0⟩)
  · refine sB_loop (P := fun p => !inV V p && (decide (goV l V N p = 0) && decide (myV l V N P p = 0))) (n := P) (Fn := fun j x => ur_at ur_G (d + 59) 123 (4, [some (.ref 0), some (.int x), some (.int (nI j))], [], (s, f, g, R))) (fun p x hp h' => ?_) ?_
    · refine e_X9_widows_4 _ _ _ _ ?_
      simp only [hX.r1, hX.r5, hc.oL.I, hc.ep, Option.bind_some, d_le (show P < 2 ^ 31 by omega) (show p < 2 ^ 31 by omega), decide_eq_false (show ¬ P ≤ p by omega), cond_false, s_isInside hc.oN (show p < 5 by omega), hc.bn 2 (by decide), ub_n0, x_goes h.xC hp, x_may h.xC hp, or_eq0, nI_1]
      unfold inV at h'
      cases hq : (!decide (V 2 p = -1)) with
      | true => rw [hq] at h'; simp only [Bool.not_true, Bool.false_and, cond_false, i_or0] at h'; exact h'
      | false =>
        rw [hq] at h'
        cases hq2 : (decide (goV l V N p = 0) && decide (myV l V N P p = 0)) with
        | true => rw [hq2] at h'; exact h'
        | false => rw [hq2] at h'; simp only [Bool.not_false, Bool.and_false, cond_false, i_or0] at h'; exact h'
    · refine e_X9_widows_4 _ _ _ _ ?_
      simp only [hX.r1, hc.oL.I, hc.ep, Option.bind_some, d_le (show P < 2 ^ 31 by omega) (show P < 2 ^ 31 by omega), Nat.le_refl, decide_true, cond_true]
      rfl
  · have h0 := m_thr hM
    have hO := h0.oM
    have a2 : ur_aI (s, ur_u f1 208 0 0, g, R) (208 + 2) 0 2 = some (ur_u f1 208 0 0 (208 + 2) 2) := hO.a2 (show 2 < 6 by decide)
    simp only [hO.pI, Option.bind_some]
    refine sB_loop (P := fun p => !inV V' p && (decide (goV l V' N p = 0) && decide (myV l V' N P p = 0))) (n := P) (Fn := fun j x => ur_at ur_G (d + 59) 223 (9, [some (.ref 208), some (.int x), some (.int (nI j))], [], (s, ur_u f1 208 0 0, g, R))) (fun p x hp h' => ?_) ?_
    · refine e_X10_widows_9 _ _ _ _ ?_
      simp only [hO.r10, a2, h0.ep, Option.bind_some, d_le (show P < 2 ^ 31 by omega) (show p < 2 ^ 31 by omega), decide_eq_false (show ¬ P ≤ p by omega), cond_false, m_inside h0 hp, ub_n0, m_goesV h0 hp, m_mayOf h0 hp, nI_1]
      cases hq : inV V' p with
      | true => rw [hq] at h'; exact h'
      | false =>
        rw [hq] at h'
        by_cases q1 : goV l V' N p = 0
        · by_cases q2 : myV l V' N P p = 0
          · rw [decide_eq_true q1, decide_eq_true q2] at h'
            rw [decide_eq_false (show ¬ goV l V' N p ≠ 0 from fun z => z q1), decide_eq_false (show ¬ myV l V' N P p ≠ 0 from fun z => z q2)]
            exact h'
          · rw [decide_eq_true q1, decide_eq_false q2] at h'
            rw [decide_eq_false (show ¬ goV l V' N p ≠ 0 from fun z => z q1), decide_eq_true (show myV l V' N P p ≠ 0 from q2)]
            exact h'
        · rw [decide_eq_false q1] at h'
          rw [decide_eq_true (show goV l V' N p ≠ 0 from q1)]
          exact h'
    · refine e_X10_widows_9 _ _ _ _ ?_
      simp only [hO.r10, a2, h0.ep, Option.bind_some, d_le (show P < 2 ^ 31 by omega) (show P < 2 ^ 31 by omega), Nat.le_refl, decide_true, cond_true]
      rfl
theorem j_longest (h : JV s R f g L L' K K' l V N P E) : JQ s R f g (d + 60) 117 234 [] := by
  have hX := h.oX
  have hc := h.cX
  have h5 := h.p5
  refine jq_mk h (fun V => (lgV V P).1) ⟨V, f, reqv.refl, ur_cl hX.rcv rfl (e_X9_longest_0 _ _ ?_), eqT.refl⟩ (fun V' f1 hM => ⟨ur_u f1 208 0 0, ur_cl hM.oM.rcv rfl (e_X10_longest_0 _ _ ?_), eqT_u SR_0⟩)
  · refine itr_loop (step := lgS V) (n := P) (Fn := fun j x => ur_at ur_G (d + 59) 117 (6, [some (.ref 0), some (.int x.1), some (.int x.2), some (.int (nI j))], [], (s, f, g, R))) (fun p x hp h' => ?_) P (-1, 0) (Nat.le_refl P) ?_
    · refine e_X9_longest_6 _ _ _ _ _ ?_
      simp only [hX.r1, hX.r5, hc.oL.I, hc.ep, Option.bind_some, d_le (show P < 2 ^ 31 by omega) (show p < 2 ^ 31 by omega), decide_eq_false (show ¬ P ≤ p by omega), cond_false, hc.oN.r4, hc.oN.a5 (show p < 5 by omega), hc.bn 5 (by decide), nI_1]
      unfold lgS at h'
      cases hq : decide (V 5 p ≤ x.2) with
      | true => rw [hq] at h'; exact h'
      | false => rw [hq] at h'; exact h'
    · refine e_X9_longest_6 _ _ _ _ _ ?_
      simp only [hX.r1, hc.oL.I, hc.ep, Option.bind_some, d_le (show P < 2 ^ 31 by omega) (show P < 2 ^ 31 by omega), Nat.le_refl, decide_true, cond_true]
      rfl
  · have h0 := m_thr hM
    have hO := h0.oM
    have a2 : ur_aI (s, ur_u f1 208 0 0, g, R) (208 + 2) 0 2 = some (ur_u f1 208 0 0 (208 + 2) 2) := hO.a2 (show 2 < 6 by decide)
    simp only [hO.pI, Option.bind_some]
    have main := lp (n := P) (Fn := fun j (x : Int32) => ur_at ur_G (d + 59) 234 (9, [some (.ref 208), some (.int x), some (.int (nI j))], [], (s, ur_u f1 208 0 0, g, R))) (I := fun j x => x = (lgV V' j).1) (Q := fun r => r = ((lgV V' P).1, (s, ur_u f1 208 0 0, g, R))) ?_ ?_ (-1) rfl
    · obtain ⟨r, e1, e2⟩ := main
      rw [e2] at e1
      exact e1
    · intro p x hp hx
      refine ⟨(lgV V' (p + 1)).1, rfl, fun r hr => e_X10_longest_9 _ _ _ _ ?_⟩
      have e : lgV V' (p + 1) = bif decide (V' 5 p ≤ (lgV V' p).2) then lgV V' p else (nI p, V' 5 p) := rfl
      rw [e] at hr
      simp only [hO.r10, a2, h0.ep, Option.bind_some, d_le (show P < 2 ^ 31 by omega) (show p < 2 ^ 31 by omega), decide_eq_false (show ¬ P ≤ p by omega), cond_false, hO.r44, show (24 : Int32) + nI p = nI (24 + p) from nI_add 24 p, hO.a33 (show 24 + p < 29 by omega), (h0.hn.2.1 p hp).2.2.2, nI_1]
      rcases lgV_inv V' p with ⟨i1, i2⟩ | ⟨q, hq, i1, i2⟩
      · rw [hx, i1]
        rw [i2] at hr
        rw [show decide ((0 : Int32) ≤ -1) = false from by decide, cond_false]
        cases hd : decide (V' 5 p ≤ 0) with
        | true => rw [hd] at hr; rw [cond_true] at hr ⊢; rw [i1] at hr; exact hr
        | false => rw [hd] at hr; exact hr
      · rw [hx, i1]
        rw [i2] at hr
        rw [decide_eq_true (nI_pos' (show q < 2 ^ 31 by omega)), cond_true, show (24 : Int32) + nI q = nI (24 + q) from nI_add 24 q, hO.a33 (show 24 + q < 29 by omega), (h0.hn.2.1 q (by omega)).2.2.2, Option.bind_some]
        cases hd : decide (V' 5 p ≤ V' 5 q) with
        | true => rw [hd] at hr; rw [cond_true] at hr ⊢; rw [i1] at hr; exact hr
        | false => rw [hd] at hr; exact hr
    · intro x hx
      refine ⟨_, e_X10_longest_9 _ _ _ _ ?_, rfl⟩
      simp only [hO.r10, a2, h0.ep, Option.bind_some, d_le (show P < 2 ^ 31 by omega) (show P < 2 ^ 31 by omega), Nat.le_refl, decide_true, cond_true, hx]
end URK2

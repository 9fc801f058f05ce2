/-! CALLS THAT ASK: as, person, count -/
section URK3
variable {s : List (Nat ⊕ (Nat × Nat))} {f f' f1 f2 l V V' : Nat → Nat → Int32} {g : Nat → Nat → Int64} {R : Nat → Nat → Option Nat} {L L' K K' D d b j p P N w n k k' : Nat} {U r x y z : Int32} {E : Int32 → Int32 → Int32 → Int32 → Int32} {as : List Value}
theorem j_as (h : JV s R f g L L' K K' l V N P E) : JQ s R f g (d + 60) 118 235 [] := by
  have hX := h.oX
  have hc := h.cX
  have h5 := h.p5
  refine jq_mk h (fun V => asV V P) ⟨V, f, reqv.refl, ur_cl hX.rcv rfl (e_X9_as_0 _ _ ?_), eqT.refl⟩ (fun V' f1 hM => ⟨ur_u f1 208 0 0, ur_cl hM.oM.rcv rfl (e_X10_as_0 _ _ ?_), eqT_u SR_0⟩)
  · refine itr_loop (step := fun p a => itr (asS V p) p a) (n := P) (Fn := fun j x => ur_at ur_G (d + 59) 118 (4, [some (.ref 0), some (.int x), some (.int (nI j)), none], [], (s, f, g, R))) (fun p x hp h' => ?_) P 0 (Nat.le_refl P) ?_
    · refine e_X9_as_4 _ _ _ _ ?_
      simp only [hX.r1, hc.oL.I, hc.ep, Option.bind_some, d_le (show P < 2 ^ 31 by omega) (show p < 2 ^ 31 by omega), decide_eq_false (show ¬ P ≤ p by omega), cond_false]
      refine itr_loop (step := asS V p) (n := p) (Fn := fun o x => ur_at ur_G (d + 59) 118 (17, [some (.ref 0), some (.int x), some (.int (nI p)), some (.int (nI o))], [], (s, f, g, R))) (fun o x ho h'' => ?_) p x (Nat.le_refl p) ?_
      · refine e_X9_as_17 _ _ _ _ _ ?_
        simp only [d_le (show p < 2 ^ 31 by omega) (show o < 2 ^ 31 by omega), decide_eq_false (show ¬ p ≤ o by omega), cond_false, hX.r5, Option.bind_some, hc.oN.r4, hc.oN.a5 (show p < 5 by omega), hc.oN.a5 (show o < 5 by omega), hc.bn 5 (by decide), nI_1]
        unfold asS at h''
        cases q1 : decide (V 5 p ≤ 0) with
        | true => rw [q1] at h''; simp only [Bool.not_true, Bool.false_and, cond_false, Int32.add_zero] at h''; exact h''
        | false =>
          rw [q1] at h''
          by_cases q2 : V 5 p = V 5 o
          · rw [decide_eq_true q2] at h''
            rw [decide_eq_false (fun z => z q2)]
            exact h''
          · rw [decide_eq_false q2] at h''
            simp only [Bool.and_false, cond_false, Int32.add_zero] at h''
            rw [decide_eq_true (show V 5 p ≠ V 5 o from q2)]
            exact h''
      · refine e_X9_as_17 _ _ _ _ _ ?_
        simp only [d_le (show p < 2 ^ 31 by omega) (show p < 2 ^ 31 by omega), Nat.le_refl, decide_true, cond_true, nI_1]
        exact h'
    · refine e_X9_as_4 _ _ _ _ ?_
      simp only [hX.r1, hc.oL.I, hc.ep, Option.bind_some, d_le (show P < 2 ^ 31 by omega) (show P < 2 ^ 31 by omega), Nat.le_refl, decide_true, cond_true]
      rfl
  · have h0 := m_thr hM
    have hO := h0.oM
    have a2 : ur_aI (s, ur_u f1 208 0 0, g, R) (208 + 2) 0 2 = some (ur_u f1 208 0 0 (208 + 2) 2) := hO.a2 (show 2 < 6 by decide)
    simp only [hO.pI, Option.bind_some]
    refine itr_loop (step := fun p a => itr (asS V' p) p a) (n := P) (Fn := fun j x => ur_at ur_G (d + 59) 235 (9, [some (.ref 208), some (.int x), some (.int (nI j)), none], [], (s, ur_u f1 208 0 0, g, R))) (fun p x hp h' => ?_) P 0 (Nat.le_refl P) ?_
    · refine e_X10_as_9 _ _ _ _ ?_
      simp only [hO.r10, a2, h0.ep, Option.bind_some, d_le (show P < 2 ^ 31 by omega) (show p < 2 ^ 31 by omega), decide_eq_false (show ¬ P ≤ p by omega), cond_false]
      refine itr_loop (step := asS V' p) (n := p) (Fn := fun o x => ur_at ur_G (d + 59) 235 (21, [some (.ref 208), some (.int x), some (.int (nI p)), some (.int (nI o))], [], (s, ur_u f1 208 0 0, g, R))) (fun o x ho h'' => ?_) p x (Nat.le_refl p) ?_
      · refine e_X10_as_21 _ _ _ _ _ ?_
        simp only [d_le (show p < 2 ^ 31 by omega) (show o < 2 ^ 31 by omega), decide_eq_false (show ¬ p ≤ o by omega), cond_false, hO.r44, Option.bind_some, show (24 : Int32) + nI p = nI (24 + p) from nI_add 24 p, show (24 : Int32) + nI o = nI (24 + o) from nI_add 24 o, hO.a33 (show 24 + p < 29 by omega), hO.a33 (show 24 + o < 29 by omega), (h0.hn.2.1 p hp).2.2.2, (h0.hn.2.1 o (show o < P by omega)).2.2.2, nI_1]
        unfold asS at h''
        cases q1 : decide (V' 5 p ≤ 0) with
        | true => rw [q1] at h''; exact h''
        | false =>
          rw [q1] at h''
          by_cases q2 : V' 5 p = V' 5 o
          · rw [decide_eq_true q2] at h''
            rw [decide_eq_false (fun z => z q2)]
            exact h''
          · rw [decide_eq_false q2] at h''
            rw [decide_eq_true (show V' 5 p ≠ V' 5 o from q2)]
            exact h''
      · refine e_X10_as_21 _ _ _ _ _ ?_
        simp only [d_le (show p < 2 ^ 31 by omega) (show p < 2 ^ 31 by omega), Nat.le_refl, decide_true, cond_true, nI_1]
        exact h'
    · refine e_X10_as_9 _ _ _ _ ?_
      simp only [hO.r10, a2, h0.ep, Option.bind_some, d_le (show P < 2 ^ 31 by omega) (show P < 2 ^ 31 by omega), Nat.le_refl, decide_true, cond_true]
      rfl
theorem j_person (h : JV s R f g L L' K K' l V N P E) : JQ s R f g (d + 60) 87 202 [.int x, .int y] := by
  have hX := h.oX
  have hc := h.cX
  have h5 := h.p5
  rcases inR_c x (show P < 2 ^ 31 by omega) with ⟨p, hp, rfl⟩ | hx
  · have e1 : ur_call ur_G (d + 59) 4 [.ref L, .int (nI p)] (s, f, g, R) = some (1, (s, f, g, R)) := by
      rw [s_hasPerson hc.oL hc.ep, inR_in hp (by omega)]; rfl
    rcases inR_c y (show 6 < 2 ^ 31 by decide) with ⟨k, hk, rfl⟩ | hy
    · have mm : ∀ V' f1, cM s R f1 208 l V' N P E → ur_call ur_G (d + 59) 180 [.ref 208, .int (nI p)] (s, ur_u f1 208 0 0, g, R) = some (1, (s, ur_u f1 208 0 0, g, R)) ∧ ur_call ur_G (d + 59) 140 [.int (nI k), .int 0, .int 5] (s, ur_u f1 208 0 0, g, R) = some (1, (s, ur_u f1 208 0 0, g, R)) := fun V' f1 hM => by
        constructor
        · rw [t_isPerson hM.oM (m_thr hM).ep, inR_in hp (by omega)]; rfl
        · rw [show (5 : Int32) = nI 5 from rfl, wth _ (by decide), inR_in hk (by decide)]; rfl
      match k, hk, mm with
      | 0, _, mm =>
        refine jq_mk h (fun V => l 5 p) ⟨V, f, reqv.refl, ur_cl hX.rcv rfl (e_X9_person_0 _ _ _ _ ?_), eqT.refl⟩ (fun V' f1 hM => ⟨ur_u f1 208 0 0, ur_cl hM.oM.rcv rfl (e_X10_person_0 _ _ _ _ ?_), eqT_u SR_0⟩)
        · simp only [hX.r1, Option.bind_some, e1, hc.oL.r4, hc.oL.a5 (show p < 5 by omega), hc.bl.1 5 (by decide)]; rfl
        · simp only [hM.oM.pI, Option.bind_some, (mm V' f1 hM).1, (mm V' f1 hM).2, show decide ((1 : Int32) ≠ 0) = true from by decide, show decide ((1 : Int32) = 0) = false from by decide, show decide ((3 : Int32) ≤ nI 0) = false from by decide, show decide (nI 0 ≠ (0 : Int32)) = false from by decide, show decide (nI 0 ≠ (1 : Int32)) = true from by decide, show decide (nI 0 ≠ (3 : Int32)) = true from by decide, show decide (nI 0 ≠ (4 : Int32)) = true from by decide, cond_true, cond_false, hM.oM.r15, hM.oM.a7 (show p < 10 by omega), ((m_thr hM).hl.2.2.2.2.2.2.2 p hp).1]
      | 1, _, mm =>
        refine jq_mk h (fun V => l 6 p) ⟨V, f, reqv.refl, ur_cl hX.rcv rfl (e_X9_person_0 _ _ _ _ ?_), eqT.refl⟩ (fun V' f1 hM => ⟨ur_u f1 208 0 0, ur_cl hM.oM.rcv rfl (e_X10_person_0 _ _ _ _ ?_), eqT_u SR_0⟩)
        · simp only [hX.r1, Option.bind_some, e1, hc.oL.r5, hc.oL.a6 (show p < 5 by omega), hc.bl.1 6 (by decide)]; rfl
        · simp only [hM.oM.pI, Option.bind_some, (mm V' f1 hM).1, (mm V' f1 hM).2, show decide ((1 : Int32) ≠ 0) = true from by decide, show decide ((1 : Int32) = 0) = false from by decide, show decide ((3 : Int32) ≤ nI 1) = false from by decide, show decide (nI 1 ≠ (0 : Int32)) = true from by decide, show decide (nI 1 ≠ (1 : Int32)) = false from by decide, show decide (nI 1 ≠ (3 : Int32)) = true from by decide, show decide (nI 1 ≠ (4 : Int32)) = true from by decide, cond_true, cond_false, hM.oM.r16, hM.oM.a8 (show p < 10 by omega), ((m_thr hM).hl.2.2.2.2.2.2.2 p hp).2.1]
      | 2, _, mm =>
        refine jq_mk h (fun V => V 1 p) ⟨V, f, reqv.refl, ur_cl hX.rcv rfl (e_X9_person_0 _ _ _ _ ?_), eqT.refl⟩ (fun V' f1 hM => ⟨ur_u f1 208 0 0, ur_cl hM.oM.rcv rfl (e_X10_person_0 _ _ _ _ ?_), eqT_u SR_0⟩)
        · simp only [hX.r1, hX.r5, Option.bind_some, e1, hc.oN.r0, hc.oN.a1 (show p < 5 by omega), hc.bn 1 (by decide)]; rfl
        · simp only [hM.oM.pI, Option.bind_some, (mm V' f1 hM).1, (mm V' f1 hM).2, show decide ((1 : Int32) ≠ 0) = true from by decide, show decide ((1 : Int32) = 0) = false from by decide, show decide ((3 : Int32) ≤ nI 2) = false from by decide, show decide (nI 2 ≠ (0 : Int32)) = true from by decide, show decide (nI 2 ≠ (1 : Int32)) = true from by decide, show decide (nI 2 ≠ (3 : Int32)) = true from by decide, show decide (nI 2 ≠ (4 : Int32)) = true from by decide, cond_true, cond_false, hM.oM.r44, show (4 : Int32) + nI p = nI (4 + p) from nI_add 4 p, hM.oM.a33 (show 4 + p < 29 by omega), ((m_thr hM).hn.2.1 p hp).1]
      | 3, _, mm =>
        refine jq_mk h (fun V => V 2 p) ⟨V, f, reqv.refl, ur_cl hX.rcv rfl (e_X9_person_0 _ _ _ _ ?_), eqT.refl⟩ (fun V' f1 hM => ⟨ur_u f1 208 0 0, ur_cl hM.oM.rcv rfl (e_X10_person_0 _ _ _ _ ?_), eqT_u SR_0⟩)
        · simp only [hX.r1, hX.r5, Option.bind_some, e1, hc.oN.r1, hc.oN.a2 (show p < 5 by omega), hc.bn 2 (by decide)]; rfl
        · simp only [hM.oM.pI, Option.bind_some, (mm V' f1 hM).1, (mm V' f1 hM).2, show decide ((1 : Int32) ≠ 0) = true from by decide, show decide ((1 : Int32) = 0) = false from by decide, show decide ((3 : Int32) ≤ nI 3) = true from by decide, show decide (nI 3 ≠ (0 : Int32)) = true from by decide, show decide (nI 3 ≠ (1 : Int32)) = true from by decide, show decide (nI 3 ≠ (3 : Int32)) = false from by decide, show decide (nI 3 ≠ (4 : Int32)) = true from by decide, cond_true, cond_false, hM.oM.r44, show (14 : Int32) + nI p = nI (14 + p) from nI_add 14 p, hM.oM.a33 (show 14 + p < 29 by omega), ((m_thr hM).hn.2.1 p hp).2.1]
      | 4, _, mm =>
        refine jq_mk h (fun V => V 4 p) ⟨V, f, reqv.refl, ur_cl hX.rcv rfl (e_X9_person_0 _ _ _ _ ?_), eqT.refl⟩ (fun V' f1 hM => ⟨ur_u f1 208 0 0, ur_cl hM.oM.rcv rfl (e_X10_person_0 _ _ _ _ ?_), eqT_u SR_0⟩)
        · simp only [hX.r1, hX.r5, Option.bind_some, e1, hc.oN.r3, hc.oN.a4 (show p < 5 by omega), hc.bn 4 (by decide)]; rfl
        · simp only [hM.oM.pI, Option.bind_some, (mm V' f1 hM).1, (mm V' f1 hM).2, show decide ((1 : Int32) ≠ 0) = true from by decide, show decide ((1 : Int32) = 0) = false from by decide, show decide ((3 : Int32) ≤ nI 4) = true from by decide, show decide (nI 4 ≠ (0 : Int32)) = true from by decide, show decide (nI 4 ≠ (1 : Int32)) = true from by decide, show decide (nI 4 ≠ (3 : Int32)) = true from by decide, show decide (nI 4 ≠ (4 : Int32)) = false from by decide, cond_true, cond_false, hM.oM.r44, show (19 : Int32) + nI p = nI (19 + p) from nI_add 19 p, hM.oM.a33 (show 19 + p < 29 by omega), ((m_thr hM).hn.2.1 p hp).2.2.1]
      | 5, _, mm =>
        refine jq_mk h (fun V => ur_b (bt (V 0 5) p)) ⟨V, f, reqv.refl, ur_cl hX.rcv rfl (e_X9_person_0 _ _ _ _ ?_), eqT.refl⟩ (fun V' f1 hM => ⟨ur_u f1 208 0 0, ur_cl hM.oM.rcv rfl (e_X10_person_0 _ _ _ _ ?_), eqT_u SR_0⟩)
        · simp only [hX.r1, hX.r5, Option.bind_some, e1, hc.oN.I, hc.f0, s_bit _ (show p < 32 by omega)]; rfl
        · have h0 := m_thr hM
          have a3 : ur_aI (s, ur_u f1 208 0 0, g, R) (208 + 33) 0 3 = some (ur_u f1 208 0 0 (208 + 33) 3) := hM.oM.a33 (show 3 < 29 by decide)
          simp only [hM.oM.pI, Option.bind_some, (mm V' f1 hM).1, (mm V' f1 hM).2, show decide ((1 : Int32) ≠ 0) = true from by decide, show decide ((1 : Int32) = 0) = false from by decide, show decide ((3 : Int32) ≤ nI 5) = true from by decide, show decide (nI 5 ≠ (0 : Int32)) = true from by decide, show decide (nI 5 ≠ (1 : Int32)) = true from by decide, show decide (nI 5 ≠ (3 : Int32)) = true from by decide, show decide (nI 5 ≠ (4 : Int32)) = true from by decide, cond_true, cond_false, hM.oM.r44, a3, h0.hn.1.2.2.2, b_bit (show p < 32 by omega)]
    · refine jq_mk h (fun V => -2) ⟨V, f, reqv.refl, ur_cl hX.rcv rfl (e_X9_person_0 _ _ _ _ ?_), eqT.refl⟩ (fun V' f1 hM => ⟨ur_u f1 208 0 0, ur_cl hM.oM.rcv rfl (e_X10_person_0 _ _ _ _ ?_), eqT_u SR_0⟩)
      · simp only [hX.r1, Option.bind_some, e1, show decide (y = (0 : Int32)) = false from inR_ne (k := 0) hy (by decide) (by decide), show decide (y = (1 : Int32)) = false from inR_ne (k := 1) hy (by decide) (by decide), show decide (y = (2 : Int32)) = false from inR_ne (k := 2) hy (by decide) (by decide), show decide (y = (3 : Int32)) = false from inR_ne (k := 3) hy (by decide) (by decide), show decide (y = (4 : Int32)) = false from inR_ne (k := 4) hy (by decide) (by decide), show decide (y = (5 : Int32)) = false from inR_ne (k := 5) hy (by decide) (by decide)]
        rfl
      · simp only [hM.oM.pI, Option.bind_some, t_isPerson hM.oM (m_thr hM).ep, inR_in hp (show P < 2 ^ 31 by omega), show (5 : Int32) = nI 5 from rfl, wth y (show 5 + 1 < 2 ^ 31 by decide), hy]
        rfl
  · refine jq_mk h (fun V => -2) ⟨V, f, reqv.refl, ur_cl hX.rcv rfl (e_X9_person_0 _ _ _ _ ?_), eqT.refl⟩ (fun V' f1 hM => ⟨ur_u f1 208 0 0, ur_cl hM.oM.rcv rfl (e_X10_person_0 _ _ _ _ ?_), eqT_u SR_0⟩)
    · simp only [hX.r1, Option.bind_some, s_hasPerson hc.oL hc.ep, hx]; rfl
    · simp only [hM.oM.pI, Option.bind_some, t_isPerson hM.oM (m_thr hM).ep, hx]; rfl
theorem j_count (h : JV s R f g L L' K K' l V N P E) : JQ s R f g (d + 60) 135 250 [.int x] := by
  have hX := h.oX
  have hc := h.cX
  have hM := h.cM
  have h0 := m_thr hM
  have hO := hM.oM
  obtain ⟨z, -, sc1, sc2, -⟩ := h.2.2.2.1
  obtain ⟨z', -, se1, se2, -⟩ := h.2.2.2.2.1
  obtain ⟨e, z'', -, -, -, pa1, pa2, -⟩ := h.2.2.2.2.2.1
  obtain ⟨t, -, tp1, tp2, -⟩ := h.2.2.1
  have e25 : ur_u f 208 0 0 (208 + 25) 0 = nI z := sc2
  have e29 : ur_u f 208 0 0 (208 + 29) 0 = nI z' := se2
  have e50 : ur_u f 208 0 0 208 50 = nI z'' := pa2
  have e1 : ur_u f 208 0 0 208 1 = nI t := tp2
  have mk : ∀ v, ur_call ur_G (d + 60) 135 [.ref 0, .int x] (s, f, g, R) = some (v, (s, f, g, R)) → ur_call ur_G (d + 60) 250 [.ref 208, .int x] (s, f, g, R) = some (v, (s, ur_u f 208 0 0, g, R)) → JQ s R f g (d + 60) 135 250 [.int x] := fun v c1 c2 => ⟨v, f, _, c1, c2, QX_x eqT.refl (eqT_u SR_0)⟩
  rcases inR_c x (show 13 < 2 ^ 31 by decide) with ⟨k, hk, rfl⟩ | hx
  · have mm : ur_call ur_G (d + 59) 140 [.int (nI k), .int 0, .int 12] (s, ur_u f 208 0 0, g, R) = some (1, (s, ur_u f 208 0 0, g, R)) := by
      rw [show (12 : Int32) = nI 12 from rfl, wth _ (by decide), inR_in hk (by decide)]; rfl
    have row : ∀ c, c < 29 → ur_aI (s, ur_u f 208 0 0, g, R) (208 + 33) 0 (nI c) = some (ur_u f 208 0 0 (208 + 33) c) := fun c hc => hO.a33 hc
    have r2 : ∀ c, c < 6 → ur_aI (s, ur_u f 208 0 0, g, R) (208 + 2) 0 (nI c) = some (ur_u f 208 0 0 (208 + 2) c) := fun c hc => hO.a2 hc
    have r25 : ur_aI (s, ur_u f 208 0 0, g, R) (208 + 25) 0 0 = some (ur_u f 208 0 0 (208 + 25) 0) := hO.a25 (show 0 < 6 by decide)
    have r29 : ur_aI (s, ur_u f 208 0 0, g, R) (208 + 29) 0 0 = some (ur_u f 208 0 0 (208 + 29) 0) := hO.a29 (show 0 < 5 by decide)
    match k, hk, mm with
    | 0, _, mm =>
      refine mk (nI N) (ur_cl hX.rcv rfl (e_X9_count_0 _ _ _ ?_)) (ur_cl hO.rcv rfl (e_X10_count_0 _ _ _ ?_))
      · simp only [hX.r1, Option.bind_some, hc.oL.I, hc.er]; rfl
      · simp only [hO.pI, Option.bind_some, mm, hO.r10, r2 0 (by decide), h0.er]; rfl
    | 1, _, mm =>
      refine mk (l 0 11) (ur_cl hX.rcv rfl (e_X9_count_0 _ _ _ ?_)) (ur_cl hO.rcv rfl (e_X10_count_0 _ _ _ ?_))
      · simp only [hX.r1, Option.bind_some, hc.oL.I, hc.l0]; rfl
      · simp only [hO.pI, Option.bind_some, mm, hO.r10, r2 1 (by decide), h0.hl.2.1.2.2.2.2]; rfl
    | 2, _, mm =>
      refine mk (nI P) (ur_cl hX.rcv rfl (e_X9_count_0 _ _ _ ?_)) (ur_cl hO.rcv rfl (e_X10_count_0 _ _ _ ?_))
      · simp only [hX.r1, Option.bind_some, hc.oL.I, hc.ep]; rfl
      · simp only [hO.pI, Option.bind_some, mm, hO.r10, r2 2 (by decide), h0.ep]; rfl
    | 3, _, mm =>
      refine mk (V 0 8) (ur_cl hX.rcv rfl (e_X9_count_0 _ _ _ ?_)) (ur_cl hO.rcv rfl (e_X10_count_0 _ _ _ ?_))
      · simp only [hX.r5, Option.bind_some, hc.oN.I, hc.f0]; rfl
      · simp only [hO.pI, Option.bind_some, mm, hO.r44, show ur_aI (s, ur_u f 208 0 0, g, R) (208 + 33) 0 0 = _ from row 0 (by decide), h0.hn.1.1]; rfl
    | 4, _, mm =>
      refine mk (V 0 7) (ur_cl hX.rcv rfl (e_X9_count_0 _ _ _ ?_)) (ur_cl hO.rcv rfl (e_X10_count_0 _ _ _ ?_))
      · simp only [hX.r5, Option.bind_some, hc.oN.I, hc.f0]; rfl
      · simp only [hO.pI, Option.bind_some, mm, hO.r44, show ur_aI (s, ur_u f 208 0 0, g, R) (208 + 33) 0 1 = _ from row 1 (by decide), h0.hn.1.2.1]; rfl
    | 5, _, mm =>
      refine mk (l 0 9) (ur_cl hX.rcv rfl (e_X9_count_0 _ _ _ ?_)) (ur_cl hO.rcv rfl (e_X10_count_0 _ _ _ ?_))
      · simp only [hX.r1, Option.bind_some, hc.oL.I, hc.l0]; rfl
      · simp only [hO.pI, Option.bind_some, mm, t_unsaids hO h0.er h0.r8, r_uns h0.hl]; rfl
    | 6, _, mm =>
      refine mk (V 0 6) (ur_cl hX.rcv rfl (e_X9_count_0 _ _ _ ?_)) (ur_cl hO.rcv rfl (e_X10_count_0 _ _ _ ?_))
      · simp only [hX.r5, Option.bind_some, hc.oN.I, hc.f0]; rfl
      · simp only [hO.pI, Option.bind_some, mm, hO.r44, show ur_aI (s, ur_u f 208 0 0, g, R) (208 + 33) 0 2 = _ from row 2 (by decide), h0.hn.1.2.2.1]; rfl
    | 7, _, mm =>
      refine mk (sB (fun p => !decide (V 2 p = -1)) P) (ur_cl hX.rcv rfl (e_X9_count_0 _ _ _ ?_)) (ur_cl hO.rcv rfl (e_X10_count_0 _ _ _ ?_))
      · simp only [hX.r5, hX.r1, Option.bind_some, s_allInside hc.oN hc.oL hc.ep hc.p5, hc.bn 2 (by decide)]; rfl
      · simp only [hO.pI, Option.bind_some, mm, t_insiders hO h0.ep h0.p5]
        rw [show sB (fun p => !decide (ur_u f 208 0 0 (208 + 33) (14 + p) < 0)) P = sB (fun p => !decide (V 2 p = -1)) P from r_ins h0.hn]
        rfl
    | 8, _, mm =>
      refine mk (V 0 5) (ur_cl hX.rcv rfl (e_X9_count_0 _ _ _ ?_)) (ur_cl hO.rcv rfl (e_X10_count_0 _ _ _ ?_))
      · simp only [hX.r5, Option.bind_some, hc.oN.I, hc.f0]; rfl
      · simp only [hO.pI, Option.bind_some, mm, hO.r44, show ur_aI (s, ur_u f 208 0 0, g, R) (208 + 33) 0 3 = _ from row 3 (by decide), h0.hn.1.2.2.2]; rfl
    | 9, _, mm =>
      refine mk (nI z) (ur_cl hX.rcv rfl (e_X9_count_0 _ _ _ ?_)) (ur_cl hO.rcv rfl (e_X10_count_0 _ _ _ ?_))
      · simp only [hX.r3, Option.bind_some, hX.scr.I, sc1]; rfl
      · simp only [hO.pI, Option.bind_some, mm, hO.r36, r25, e25]; rfl
    | 10, _, mm =>
      refine mk (nI z') (ur_cl hX.rcv rfl (e_X9_count_0 _ _ _ ?_)) (ur_cl hO.rcv rfl (e_X10_count_0 _ _ _ ?_))
      · simp only [hX.r7, Option.bind_some, hX.seen.I, se1]; rfl
      · simp only [hO.pI, Option.bind_some, mm, hO.r40, r29, e29]; rfl
    | 11, _, mm =>
      refine mk (nI z'') (ur_cl hX.rcv rfl (e_X9_count_0 _ _ _ ?_)) (ur_cl hO.rcv rfl (e_X10_count_0 _ _ _ ?_))
      · simp only [hX.I, Option.bind_some, pa1]; rfl
      · simp only [hO.pI, Option.bind_some, mm, hO.I, e50]; rfl
    | 12, _, mm =>
      refine mk (nI t) (ur_cl hX.rcv rfl (e_X9_count_0 _ _ _ ?_)) (ur_cl hO.rcv rfl (e_X10_count_0 _ _ _ ?_))
      · simp only [hX.r0, Option.bind_some, hX.tape.I, tp1]; rfl
      · simp only [hO.pI, Option.bind_some, mm, hO.I, e1]; rfl
  · refine mk (-1) (ur_cl hX.rcv rfl (e_X9_count_0 _ _ _ ?_)) (ur_cl hO.rcv rfl (e_X10_count_0 _ _ _ ?_))
    · have ne : ∀ k, k < 13 → decide (x = nI k) = false := fun k hk => inR_ne hx hk (by decide)
      simp only [show decide (x = (0 : Int32)) = false from ne 0 (by decide), show decide (x = (1 : Int32)) = false from ne 1 (by decide), show decide (x = (2 : Int32)) = false from ne 2 (by decide), show decide (x = (3 : Int32)) = false from ne 3 (by decide), show decide (x = (4 : Int32)) = false from ne 4 (by decide), show decide (x = (5 : Int32)) = false from ne 5 (by decide), show decide (x = (6 : Int32)) = false from ne 6 (by decide), show decide (x = (7 : Int32)) = false from ne 7 (by decide), show decide (x = (8 : Int32)) = false from ne 8 (by decide), show decide (x = (9 : Int32)) = false from ne 9 (by decide), show decide (x = (10 : Int32)) = false from ne 10 (by decide), show decide (x = (11 : Int32)) = false from ne 11 (by decide), show decide (x = (12 : Int32)) = false from ne 12 (by decide), cond_false]
    · simp only [hO.pI, Option.bind_some, show (12 : Int32) = nI 12 from rfl, wth x (show 12 + 1 < 2 ^ 31 by decide), hx]
      rfl
end URK3

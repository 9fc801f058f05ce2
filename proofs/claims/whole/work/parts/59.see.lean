/-! see, on both sides -/
section URS9
variable {s : List (Nat ⊕ (Nat × Nat))} {f f' f1 f2 l V V' : Nat → Nat → Int32} {g : Nat → Nat → Int64} {R : Nat → Nat → Option Nat} {L L' K K' D d b j p P N w n k k' a i z : Nat} {U r x y v : Int32} {E : Int32 → Int32 → Int32 → Int32 → Int32} {c : Bool}
def TSe : Nat → Nat → Prop := fun a k => (45 ≤ a ∧ a < 48) ∨ (a = 208 ∧ k = 0) ∨ (237 ≤ a ∧ a < 241)
theorem mk_see (h : JV s R f g L L' K K' l V N P E) (t : eqT (fun a k => (45 ≤ a ∧ a < 48) ∨ (a = 208 ∧ k = 0) ∨ (a = 237 ∧ k = 0) ∨ (238 ≤ a ∧ a < 241 ∧ k < 8)) f f') (hs : seR f' 45 0 P) : JV s R f' g L L' K K' l V N P E := by
  obtain ⟨⟨h1, h2, h3, h4⟩, h5, h6, h7, h8, h9, h10⟩ := h
  have hL := h1.eL
  have hK := h1.eK
  have hP := h4.p5
  refine ⟨⟨h1, h2.fr t (h2.bn.fr t (fun i k hi z => by omega)) (fun a k a1 a2 z => by omega), h3, h4.fr t (fun a k a1 a2 z => by omega) (by rw [t.row (fun k z => by omega)]; exact h4.hn)⟩, h5, h6.fr t (fun a k hk z => by omega), h7.fr t (fun a k hk z => by omega), hs, h9.fr hP t (fun a k hk z => by omega), h10.fr hP t (fun a k hk z => by omega)⟩
theorem w1_30 (y : Int32) : (∃ k, 1 ≤ k ∧ k ≤ 30 ∧ y = nI k) ∨ (bif decide (y < 1) then true else !decide (y ≤ 30)) = true := by
  cases h1 : decide (y < 1) with
  | true => exact Or.inr rfl
  | false =>
    cases h2 : decide (y ≤ 30) with
    | false => exact Or.inr rfl
    | true =>
      left
      have a1 := of_decide_eq_false h1
      have a2 := of_decide_eq_true h2
      have a3 : (1 : Int32) ≤ y := Int32.not_lt.mp a1
      have h0 : ¬ y < 0 := fun z => absurd (Int32.lt_of_le_of_lt a3 z) (by decide)
      obtain ⟨j, hj, rfl⟩ := nI_of h0
      exact ⟨j, (nI_leI (a := 1) (by decide) hj).mp a3, (nI_leI (b := 30) hj (by decide)).mp a2, rfl⟩
theorem nar_b (c : Bool) : vp_nar .boolean (ur_b c) = ur_b c := by cases c <;> decide
theorem b_set (x : Int32) (hz : z < 8) : (∀ i, i < z → bt (x ||| ((1 : Int32) <<< (nI z &&& 31))) i = bt x i) ∧ bt (x ||| ((1 : Int32) <<< (nI z &&& 31))) z = true ∧ (∀ i, i < z → bt (x &&& (((1 : Int32) <<< (nI z &&& 31)) ^^^ (-1))) i = bt x i) ∧ bt (x &&& (((1 : Int32) <<< (nI z &&& 31)) ^^^ (-1))) z = false := by
  refine ⟨fun i hi => ?_, ?_, fun i hi => ?_, ?_⟩
  · rw [b_or, b_one (by omega) (by omega), decide_eq_false (by omega), Bool.or_false]
  · rw [b_or, b_one (by omega) (by omega), decide_eq_true rfl, Bool.or_true]
  · rw [b_and, b_not (by omega), b_one (by omega) (by omega), decide_eq_false (by omega), Bool.not_false, Bool.and_true]
  · rw [b_and, b_not (by omega), b_one (by omega) (by omega), decide_eq_true rfl, Bool.not_true, Bool.and_false]
theorem j_see (h : JV s R f g L L' K K' l V N P E) : JC s R f g (d + 60) 124 239 [.int x, .int y, .int (ur_b c)] := by
  have hX := h.oX
  have hc := h.cX
  have hM := h.cM
  have h0 := m_thr hM
  have hO := hM.oM
  have hS := hX.seen
  have h5 := h.p5
  have fls : INV s R (ur_u f 208 0 0) g := (h.q (QX_x eqT.refl (eqT_u SR_0))).inv
  rcases inR_c x (show P < 2 ^ 31 by omega) with ⟨p, hp, rfl⟩ | hx
  · have eP : ur_call ur_G (d + 59) 4 [.ref L, .int (nI p)] (s, f, g, R) = some (1, (s, f, g, R)) := by
      rw [s_hasPerson hc.oL hc.ep, inR_in hp (by omega)]; rfl
    have mP : ∀ f1 V1, cM s R f1 208 l V1 N P E → ur_call ur_G (d + 59) 180 [.ref 208, .int (nI p)] (s, f1, g, R) = some (1, (s, f1, g, R)) := fun f1 V1 hM => by
      rw [t_isPerson hM.oM hM.ep, inR_in hp (by omega)]; rfl
    rcases w1_30 y with ⟨k, hk1, hk30, rfl⟩ | hy
    · have c1 : decide (nI k < (1 : Int32)) = false := decide_eq_false (nI_nlt (b := 1) hk1 (by omega))
      have c2 : decide (nI k ≤ (30 : Int32)) = true := decide_eq_true (nI_le (b := 30) hk30 (by decide))
      have c3 : decide ((30 : Int32) < nI k) = false := decide_eq_false (nI_nlt (a := 30) hk30 (by decide))
      obtain ⟨z, hz, z1, z2, z3⟩ := h.2.2.2.2.1
      have r29 : ∀ f', ur_aI (s, f', g, R) (208 + 29) 0 0 = some (f' (208 + 29) 0) := fun f' => hO.a29 (show 0 < 5 by decide)
      have w29 : ∀ f' v, ur_wI (s, f', g, R) (208 + 29) 0 0 v = some (s, ur_u f' (208 + 29) 0 v, g, R) := fun f' v => hO.w29 (show 0 < 5 by decide)
      by_cases h8 : z = 8
      · subst h8
        refine ⟨0, f, g, R, ur_u f 208 0 0, g, R, ur_cl hX.rcv rfl (e_X9_see_0 _ _ _ _ _ ?_), ur_cl hO.rcv rfl (e_X10_see_0 _ _ _ _ _ ?_), fls⟩
        · have e : ur_call ur_G (d + 59) 69 [.ref 45, .int (nI p), .int (nI k), .int (ur_b c)] (s, f, g, R) = some (0, (s, f, g, R)) := by
            refine ur_cl hS.rcv rfl (e_X7_put_0 _ _ _ _ _ ?_)
            simp only [hS.I, Option.bind_some, z1]
            rfl
          simp only [hX.r1, hX.r7, Option.bind_some, eP, c1, c2, e]; rfl
        · have e29 : ur_u f 208 0 0 (208 + 29) 0 = nI 8 := z2
          simp only [hO.pI, Option.bind_some, mP _ _ h0, t_within, c1, c3, hO.r40, r29, e29]; rfl
      · obtain ⟨s1, s2, s3, s4⟩ := b_set (f 45 2) (show z < 8 by omega)
        obtain ⟨so, hso⟩ : ∃ so, so = bif c then f 45 2 ||| ((1 : Int32) <<< (nI z &&& 31)) else f 45 2 &&& (((1 : Int32) <<< (nI z &&& 31)) ^^^ (-1)) := ⟨_, rfl⟩
        have so1 : ∀ i, i < z → bt so i = bt (f 45 2) i := fun i hi => by rw [hso]; cases c; exact s3 i hi; exact s1 i hi
        have so2 : bt so z = c := by rw [hso]; cases c; exact s4; exact s2
        obtain ⟨f1, hf1⟩ : ∃ f1, f1 = ur_u (ur_u (ur_u (ur_u f (45 + 1) z (nI p)) (45 + 2) z (nI k)) 45 2 so) 45 3 (nI (z + 1)) := ⟨_, rfl⟩
        have t1 : eqT (fun a k => (45 ≤ a ∧ a < 48) ∨ (a = 208 ∧ k = 0) ∨ (a = 237 ∧ k = 0) ∨ (238 ≤ a ∧ a < 241 ∧ k < 8)) f f1 := by
          rw [hf1]
          exact (((eqT_u (T := fun a k => (45 ≤ a ∧ a < 48) ∨ (a = 208 ∧ k = 0) ∨ (a = 237 ∧ k = 0) ∨ (238 ≤ a ∧ a < 241 ∧ k < 8)) (by omega)).u (by omega)).u (by omega)).u (by omega)
        obtain ⟨f2, hf2⟩ : ∃ f2, f2 = ur_u (ur_u (ur_u (ur_u (ur_u f1 208 0 0) (208 + 30) z (nI p)) (208 + 31) z (nI k)) (208 + 32) z (ur_b c)) (208 + 29) 0 (nI (z + 1)) := ⟨_, rfl⟩
        have t2 : eqT (fun a k => (45 ≤ a ∧ a < 48) ∨ (a = 208 ∧ k = 0) ∨ (a = 237 ∧ k = 0) ∨ (238 ≤ a ∧ a < 241 ∧ k < 8)) f f2 := by
          rw [hf2]
          exact ((((t1.u (by omega)).u (by omega)).u (by omega)).u (by omega)).u (by omega)
        have low : ∀ a, a < 208 → f2 a = f1 a := fun a ha => by rw [hf2, ur_ua (by omega), ur_ua (by omega), ur_ua (by omega), ur_ua (by omega), ur_ua (by omega)]
        have hi1 : ∀ a, 208 ≤ a → f1 a = f a := fun a ha => by rw [hf1, ur_ua (by omega), ur_ua (by omega), ur_ua (by omega), ur_ua (by omega)]
        have hs : seR f2 45 0 P := by
          refine ⟨z + 1, by omega, ?_, ?_, fun i hi => ?_⟩
          · rw [low 45 (by decide), hf1, ur_us]
          · rw [hf2]; exact ur_us
          · have e45 : f2 45 2 = so := by rw [low 45 (by decide), hf1, ur_un (by decide), ur_us]
            by_cases hiz : i = z
            · subst hiz
              refine ⟨p, k, hp, ?_, ?_, hk1, hk30, ?_, ?_, ?_⟩
              · rw [low _ (by decide), hf1, ur_ua (by decide), ur_ua (by decide), ur_ua (by decide), ur_us]
              · rw [show 8 * 0 + i = i by omega, show f2 238 = f2 (208 + 30) from rfl, hf2, ur_ua (by decide), ur_ua (by decide), ur_ua (by decide), ur_us]
              · rw [low _ (by decide), hf1, ur_ua (by decide), ur_ua (by decide), ur_us]
              · rw [show 8 * 0 + i = i by omega, show f2 239 = f2 (208 + 31) from rfl, hf2, ur_ua (by decide), ur_ua (by decide), ur_us]
              · rw [e45, so2, show 8 * 0 + i = i by omega, show f2 240 = f2 (208 + 32) from rfl, hf2, ur_ua (by decide), ur_us]
            · obtain ⟨p', k', q1, q2, q3, q4, q5, q6, q7, q8⟩ := z3 i (by omega)
              rw [show 8 * 0 + i = i by omega] at q3 q7 q8 ⊢
              refine ⟨p', k', q1, ?_, ?_, q4, q5, ?_, ?_, ?_⟩
              · rw [low _ (by decide), hf1, ur_ua (by decide), ur_ua (by decide), ur_ua (by decide), ur_un hiz, q2]
              · rw [show f2 238 = f2 (208 + 30) from rfl, hf2, ur_ua (by decide), ur_ua (by decide), ur_ua (by decide), ur_un hiz, ur_ua (by decide), hi1 _ (by decide)]; exact q3
              · rw [low _ (by decide), hf1, ur_ua (by decide), ur_ua (by decide), ur_un hiz, ur_ua (by decide), q6]
              · rw [show f2 239 = f2 (208 + 31) from rfl, hf2, ur_ua (by decide), ur_ua (by decide), ur_un hiz, ur_ua (by decide), ur_ua (by decide), hi1 _ (by decide)]; exact q7
              · rw [e45, so1 i (by omega), show f2 240 = f2 (208 + 32) from rfl, hf2, ur_ua (by decide), ur_un hiz, ur_ua (by decide), ur_ua (by decide), ur_ua (by decide), hi1 _ (by decide)]; exact q8
        refine ⟨1, f1, g, R, f2, g, R, ur_cl hX.rcv rfl (e_X9_see_0 _ _ _ _ _ ?_), ur_cl hO.rcv rfl (e_X10_see_0 _ _ _ _ _ ?_), (mk_see h t2 hs).inv⟩
        · have e : ur_call ur_G (d + 59) 69 [.ref 45, .int (nI p), .int (nI k), .int (ur_b c)] (s, f, g, R) = some (1, (s, f1, g, R)) := by
            refine ur_cl hS.rcv rfl (e_X7_put_0 _ _ _ _ _ ?_)
            simp only [hS.I, Option.bind_some, z1, show decide (nI z < (8 : Int32)) = true from decide_eq_true (nI_lt (b := 8) (by omega) (by decide)), cond_true, hS.r0, hS.w1 (show z < 8 by omega), hS.r1, ur_ua (show (45 : Nat) ≠ 45 + 1 by decide), hS.w2 (show z < 8 by omega), ur_ua (show (45 : Nat) ≠ 45 + 2 by decide), hS.pI, ur_un (show (3 : Nat) ≠ 2 by decide), nI_1, ub_0]
            rw [hf1, hso]
            cases c <;> rfl
          simp only [hX.r1, hX.r7, Option.bind_some, eP, c1, c2, e]; rfl
        · have hM1 : cM s R (ur_u f1 208 0 0) 208 l V N P E := m_thr (hM.fr t1 (fun a k q1 q2 q => by omega) (by rw [hi1 _ (by decide)]; exact hM.hn))
          have e29 : ∀ (f' : Nat → Nat → Int32), f' (208 + 29) 0 = f (208 + 29) 0 → f' (208 + 29) 0 = nI z := fun f' q => by rw [q]; exact z2
          have w30 : ∀ f' v, ur_wI (s, f', g, R) (208 + 30) 0 (nI z) v = some (s, ur_u f' (208 + 30) z v, g, R) := fun f' v => hO.w30 (show z < 40 by omega)
          have w31 : ∀ f' v, ur_wI (s, f', g, R) (208 + 31) 0 (nI z) v = some (s, ur_u f' (208 + 31) z v, g, R) := fun f' v => hO.w31 (show z < 40 by omega)
          have w32 : ∀ f' v, ur_wI (s, f', g, R) (208 + 32) 2 (nI z) v = some (s, ur_u f' (208 + 32) z v, g, R) := fun f' v => hO.w32 (show z < 40 by omega)
          have n8 : decide (nI z ≠ (8 : Int32)) = true := decide_eq_true (fun q => h8 ((nI_eq (a := z) (b := 8) (by omega) (by decide)).mp q))
          have q0 : ur_u f1 208 0 0 (208 + 29) 0 = nI z := e29 _ (by rw [ur_ua (by decide), hi1 _ (by decide)])
          have q1 : ur_u (ur_u f1 208 0 0) (208 + 30) z (nI p) (208 + 29) 0 = nI z := e29 _ (by rw [ur_ua (by decide), ur_ua (by decide), hi1 _ (by decide)])
          have q2 : ur_u (ur_u (ur_u f1 208 0 0) (208 + 30) z (nI p)) (208 + 31) z (nI k) (208 + 29) 0 = nI z := e29 _ (by rw [ur_ua (by decide), ur_ua (by decide), ur_ua (by decide), hi1 _ (by decide)])
          have q3 : ur_u (ur_u (ur_u (ur_u f1 208 0 0) (208 + 30) z (nI p)) (208 + 31) z (nI k)) (208 + 32) z (ur_b c) (208 + 29) 0 = nI z := e29 _ (by rw [ur_ua (by decide), ur_ua (by decide), ur_ua (by decide), ur_ua (by decide), hi1 _ (by decide)])
          simp only [hO.pI, Option.bind_some, mP _ _ hM1, t_within, c1, c3, Bool.not_false, Bool.and_self, ub_0, Bool.not_true, cond_false, hO.r40, r29, q0, n8, cond_true, hO.r41, w30, q1, hO.r42, w31, q2, hO.r43, nar_b, w32, q3, w29, nI_1, ← hf2, show decide ((1 : Int32) = 0) = false from by decide]
    · refine ⟨0, f, g, R, ur_u f 208 0 0, g, R, ur_cl hX.rcv rfl (e_X9_see_0 _ _ _ _ _ ?_), ur_cl hO.rcv rfl (e_X10_see_0 _ _ _ _ _ ?_), fls⟩
      · simp only [hX.r1, Option.bind_some, eP]
        cases q1 : decide (y < 1) with
        | true => rfl
        | false =>
          rw [q1] at hy
          cases q2 : decide (y ≤ 30) with
          | false => rfl
          | true => rw [q2] at hy; cases hy
      · have e3 : decide ((30 : Int32) < y) = !decide (y ≤ 30) := by
          by_cases q : y ≤ (30 : Int32)
          · rw [decide_eq_true q, decide_eq_false (Int32.not_lt.mpr q)]; rfl
          · rw [decide_eq_false q, decide_eq_true (Int32.not_le.mp q)]; rfl
        simp only [hO.pI, Option.bind_some, mP _ _ h0, t_within, e3]
        cases q1 : decide (y < 1) with
        | true => rfl
        | false =>
          rw [q1] at hy
          cases q2 : decide (y ≤ 30) with
          | false => rfl
          | true => rw [q2] at hy; cases hy
  · refine ⟨0, f, g, R, ur_u f 208 0 0, g, R, ur_cl hX.rcv rfl (e_X9_see_0 _ _ _ _ _ ?_), ur_cl hO.rcv rfl (e_X10_see_0 _ _ _ _ _ ?_), fls⟩
    · simp only [hX.r1, Option.bind_some, s_hasPerson hc.oL hc.ep, hx]; rfl
    · simp only [hO.pI, Option.bind_some, t_isPerson hO h0.ep, hx]; rfl
end URS9

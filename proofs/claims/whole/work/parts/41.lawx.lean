/-! The class's law: values over a stack -/
/-- the stack: how many, and its row -/
def puX (x : Nat × (Nat → Int32)) (v : Int32) : Nat × (Nat → Int32) := bif decide (32 ≤ x.1) then x else (x.1 + 1, up x.2 x.1 v)
def poV (x : Nat × (Nat → Int32)) : Int32 := bif decide (x.1 = 0) then 0 else x.2 (x.1 - 1)
def poX (x : Nat × (Nat → Int32)) : Nat × (Nat → Int32) := (x.1 - 1, x.2)
def jnX (c l r : Int32) : Int32 := bif decide (c = 42) then l * r else bif decide (c = 43) then l + r else bif decide (c = 45) then l - r else bif decide (c = 60) then (bif decide (r ≤ l) then 0 else 1) else bif decide (c = 61) then (bif decide (l ≠ r) then 0 else 1) else bif decide (c = 118) then (bif decide (l = 0) then 0 else bif decide (r = 0) then 0 else 1) else (bif decide (l ≠ 0) then 1 else bif decide (r = 0) then 0 else 1)
def foX (x : Nat × (Nat → Int32)) (c : Int32) : Nat × (Nat → Int32) := bif decide (c < 0) then puX (poX (poX x)) (jnX (-c) (poV (poX x)) (poV x)) else puX x c
def stX (u t y n c : Int32) (x : Nat × (Nat → Int32)) : Nat × (Nat → Int32) := bif decide (c = -117) then puX (poX x) (bif decide (poV x ≠ 0) then 0 else 1) else bif decide (c = -4) then puX x n else bif decide (c = -3) then puX x y else bif decide (c = -2) then puX x t else bif decide (c = -1) then puX x u else foX x c
def ruX (st : Nat → Int32) (u t y n : Int32) (z : Nat) (x : Nat × (Nat → Int32)) : Nat × (Nat → Int32) := itr (fun i x => stX u t y n (st i) x) z x
def vlX (st : Nat → Int32) (z : Nat) (u t y n : Int32) (K : Nat → Int32) : Int32 := bif decide ((ruX st u t y n z (0, K)).1 = 0) then u else (ruX st u t y n z (0, K)).2 ((ruX st u t y n z (0, K)).1 - 1)
theorem puX_le {x : Nat × (Nat → Int32)} {v : Int32} (h : x.1 ≤ 32) : (puX x v).1 ≤ 32 := by
  unfold puX
  by_cases h1 : 32 ≤ x.1
  · rw [decide_eq_true h1]; exact h
  · rw [decide_eq_false h1]; show x.1 + 1 ≤ 32; omega
theorem poX_le {x : Nat × (Nat → Int32)} (h : x.1 ≤ 32) : (poX x).1 ≤ 32 := by unfold poX; show x.1 - 1 ≤ 32; omega
theorem foX_le {x : Nat × (Nat → Int32)} {c : Int32} (h : x.1 ≤ 32) : (foX x c).1 ≤ 32 := by
  unfold foX
  cases decide (c < 0)
  · exact puX_le h
  · exact puX_le (poX_le (poX_le h))
theorem stX_le {u t y n c : Int32} {x : Nat × (Nat → Int32)} (h : x.1 ≤ 32) : (stX u t y n c x).1 ≤ 32 := by
  unfold stX
  cases decide (c = -117)
  · cases decide (c = -4)
    · cases decide (c = -3)
      · cases decide (c = -2)
        · cases decide (c = -1)
          · exact foX_le h
          · exact puX_le h
        · exact puX_le h
      · exact puX_le h
    · exact puX_le h
  · exact puX_le (poX_le h)
theorem ruX_le {st : Nat → Int32} {u t y n : Int32} {x : Nat × (Nat → Int32)} (h : x.1 ≤ 32) : ∀ z, (ruX st u t y n z x).1 ≤ 32
  | 0 => h
  | z + 1 => stX_le (ruX_le h z)
/-- the law's scratch in memory -/
def bK (f : Nat → Nat → Int32) (a : Nat) (x : Nat × (Nat → Int32)) : Prop := f a 3 = nI x.1 ∧ f (a + 2) = x.2
def TK (a : Nat) : Nat → Nat → Prop := fun i k => (i = a ∧ k = 3) ∨ i = a + 2
section URL1
variable {s : List (Nat ⊕ (Nat × Nat))} {f : Nat → Nat → Int32} {g : Nat → Nat → Int64} {R : Nat → Nat → Option Nat} {a d j z : Nat} {x : Nat × (Nat → Int32)} {r v c u t y n : Int32} {st : Nat → Int32}
theorem s_push (hA : oLaw s R a) (hk : bK f a x) (hx : x.1 ≤ 32) : ∃ f', ur_call ur_G (d + 1) 30 [.ref a, .int v] (s, f, g, R) = some (0, (s, f', g, R)) ∧ bK f' a (puX x v) ∧ eqT (TK a) f f' := by
  have hp : ∀ r, (bif decide ((32 : Int32) ≤ nI x.1) then some ((0 : Int32), ((s, f, g, R) : ur_M)) else ((ur_wI (s, f, g, R) (a + 2) 0 (nI x.1) v).bind fun m4 => ((ur_fI m4 a 2 3).bind fun v5 => ((ur_pI m4 a 2 3 (v5 + (1 : Int32))).bind fun m6 => some (0, m6))))) = some r → ur_call ur_G (d + 1) 30 [.ref a, .int v] (s, f, g, R) = some r := by
    intro r hr
    refine ur_cl hA.rcv rfl (e_X2_push_0 _ _ _ ?_)
    simp only [hA.I, Option.bind_some, hk.1, hA.r1]
    exact hr
  by_cases h1 : 32 ≤ x.1
  · refine ⟨f, hp _ ?_, ?_, eqT.refl⟩
    · rw [show (32 : Int32) = nI 32 from rfl, d_le (by decide) (by omega), decide_eq_true h1, cond_true]
    · unfold puX; rw [decide_eq_true h1]; exact hk
  · refine ⟨ur_u (ur_u f (a + 2) x.1 v) a 3 (nI (x.1 + 1)), hp _ ?_, ?_, ?_⟩
    · rw [show (32 : Int32) = nI 32 from rfl, d_le (by decide) (by omega), decide_eq_false h1, cond_false, hA.w2 (by omega)]
      simp only [Option.bind_some, hA.I, hA.pI, ur_ua (show a ≠ a + 2 by omega), hk.1, nI_1]
    · unfold puX
      rw [decide_eq_false h1]
      refine ⟨ur_us, ?_⟩
      rw [ur_ua (by omega)]
      exact ur_uS hk.2
    · exact (eqT_u (T := TK a) (show TK a (a + 2) _ from Or.inr rfl)).u (show TK a a 3 from Or.inl ⟨rfl, rfl⟩)
theorem s_pop (hA : oLaw s R a) (hk : bK f a x) (hx : x.1 ≤ 32) : ∃ f', ur_call ur_G (d + 1) 31 [.ref a] (s, f, g, R) = some (poV x, (s, f', g, R)) ∧ bK f' a (poX x) ∧ eqT (TK a) f f' := by
  have hp : ∀ r, (bif decide (nI x.1 ≠ 0) then ((ur_pI (s, f, g, R) a 2 3 (nI x.1 - (1 : Int32))).bind fun m3 => ((ur_fR m3 a 2 1).bind fun a4 => ((ur_fI m3 a 2 3).bind fun v5 => ((ur_aI m3 a4 0 v5).bind fun v6 => some (v6, m3))))) else some ((0 : Int32), ((s, f, g, R) : ur_M))) = some r → ur_call ur_G (d + 1) 31 [.ref a] (s, f, g, R) = some r := by
    intro r hr
    refine ur_cl hA.rcv rfl (e_X2_pop_0 _ _ ?_)
    simp only [hA.I, Option.bind_some, hk.1]
    exact hr
  obtain ⟨h, K⟩ := x
  cases h with
  | zero => exact ⟨f, hp _ rfl, hk, eqT.refl⟩
  | succ h =>
    dsimp only at hx
    refine ⟨ur_u f a 3 (nI h), hp _ ?_, ⟨ur_us, ?_⟩, eqT_u (Or.inl ⟨rfl, rfl⟩)⟩
    · dsimp only
      rw [decide_eq_true (nI_ne0 (by omega) (by omega)), cond_true, nI_pred]
      simp only [hA.pI, Option.bind_some, hA.r1, hA.I, ur_us, hA.a2 (show h < 32 by omega), ur_ua (show a + 2 ≠ a by omega), hk.2]
      rfl
    · rw [ur_ua (by omega)]
      exact hk.2
theorem s_joined {m : ur_M} {l r : Int32} : ur_call ur_G (d + 1) 29 [.int c, .int l, .int r] m = some (jnX c l r, m) := by
  refine ur_cl rfl rfl (e_X2_joined_0 _ _ _ _ ?_)
  unfold jnX
  cases decide (c = 42)
  · cases decide (c = 43)
    · cases decide (c = 45)
      · cases decide (c = 60)
        · cases decide (c = 61)
          · cases decide (c = 118)
            · cases decide (l ≠ 0)
              · cases decide (r = 0) <;> rfl
              · rfl
            · cases decide (l = 0)
              · cases decide (r = 0) <;> rfl
              · rfl
          · cases decide (l ≠ r) <;> rfl
        · cases decide (r ≤ l) <;> rfl
      · rfl
    · rfl
  · rfl
theorem s_lfollow (hA : oLaw s R a) (hk : bK f a x) (hx : x.1 ≤ 32) : ∃ f', ur_call ur_G (d + 2) 28 [.ref a, .int c] (s, f, g, R) = some (0, (s, f', g, R)) ∧ bK f' a (foX x c) ∧ eqT (TK a) f f' := by
  unfold foX
  cases hc : decide (c < 0) with
  | false =>
    obtain ⟨f1, c1, c2, c3⟩ := s_push (d := d) (g := g) (v := c) hA hk hx
    refine ⟨f1, ur_cl hA.rcv rfl (e_X2_follow_0 _ _ _ ?_), c2, c3⟩
    simp only [hc, cond_false, c1, Option.bind_some]
  | true =>
    obtain ⟨f1, c1, c2, c3⟩ := s_pop (d := d) (g := g) hA hk hx
    obtain ⟨f2, d1, d2, d3⟩ := s_pop (d := d) (g := g) hA c2 (poX_le hx)
    obtain ⟨f3, e1, e2, e3⟩ := s_push (d := d) (g := g) (v := jnX (-c) (poV (poX x)) (poV x)) hA d2 (poX_le (poX_le hx))
    refine ⟨f3, ur_cl hA.rcv rfl (e_X2_follow_0 _ _ _ ?_), e2, (c3.trans d3).trans e3⟩
    simp only [hc, cond_true, c1, d1, s_joined, e1, Option.bind_some]
theorem s_valueOf (hA : oLaw s R a) (hz : f a 2 = nI z) (hz0 : z ≤ 1000) (hst : f (a + 1) = st) : ∃ f', ur_call ur_G (d + 3) 27 [.ref a, .int u, .int t, .int y, .int n] (s, f, g, R) = some (vlX st z u t y n (f (a + 2)), (s, f', g, R)) ∧ eqT (TK a) f f' := by
  have main := lp (n := z) (Fn := fun j (f' : Nat → Nat → Int32) => ur_at ur_G (d + 2) 27 (8, [some (.ref a), some (.int u), some (.int t), some (.int y), some (.int n), some (.int (nI j)), none], [], (s, f', g, R)))
    (I := fun j f' => bK f' a (ruX st u t y n j (0, f (a + 2))) ∧ eqT (TK a) f f')
    (Q := fun r => r.1 = vlX st z u t y n (f (a + 2)) ∧ ∃ f', r.2 = (s, f', g, R) ∧ eqT (TK a) f f') ?_ ?_ (ur_u f a 3 0) ⟨⟨ur_us, ur_ua (by omega)⟩, eqT_u (Or.inl ⟨rfl, rfl⟩)⟩
  · obtain ⟨⟨v, m⟩, h1, h2, f', h3, h4⟩ := main
    refine ⟨f', ur_cl hA.rcv rfl (e_X2_valueOf_0 _ _ _ _ _ _ ?_), h4⟩
    dsimp only at h2 h3
    rw [← h2, ← h3]
    simp only [hA.pI, Option.bind_some]
    exact h1
  · intro j f1 hj ⟨i1, i2⟩
    have hle := ruX_le (st := st) (u := u) (t := t) (y := y) (n := n) (x := (0, f (a + 2))) (Nat.zero_le 32) j
    have e2 : f1 a 2 = nI z := by rw [i2 a 2 (by unfold TK; omega), hz]
    have e1 : f1 (a + 1) = st := by rw [i2.row (fun k => by unfold TK; omega), hst]
    have hst2 : ruX st u t y n (j + 1) (0, f (a + 2)) = stX u t y n (st j) (ruX st u t y n j (0, f (a + 2))) := rfl
    generalize hX : ruX st u t y n j (0, f (a + 2)) = X at *
    -- one push
    have pu : ∀ w, stX u t y n (st j) X = puX X w → (∀ r f2, ur_call ur_G (d + 2) 30 [.ref a, .int w] (s, f1, g, R) = some (0, (s, f2, g, R)) → ur_at ur_G (d + 2) 27 (8, [some (.ref a), some (.int u), some (.int t), some (.int y), some (.int n), some (.int (nI (j + 1))), none], [], (s, f2, g, R)) = some r → ur_at ur_G (d + 2) 27 (8, [some (.ref a), some (.int u), some (.int t), some (.int y), some (.int n), some (.int (nI j)), none], [], (s, f1, g, R)) = some r) → ∃ f', (bK f' a (ruX st u t y n (j + 1) (0, f (a + 2))) ∧ eqT (TK a) f f') ∧ ∀ r, ur_at ur_G (d + 2) 27 (8, [some (.ref a), some (.int u), some (.int t), some (.int y), some (.int n), some (.int (nI (j + 1))), none], [], (s, f', g, R)) = some r → ur_at ur_G (d + 2) 27 (8, [some (.ref a), some (.int u), some (.int t), some (.int y), some (.int n), some (.int (nI j)), none], [], (s, f1, g, R)) = some r := by
      intro w hw hh
      obtain ⟨f2, c1, c2, c3⟩ := s_push (d := d + 1) (g := g) (v := w) hA i1 hle
      exact ⟨f2, ⟨by rw [hst2, hw]; exact c2, i2.trans c3⟩, fun r hr => hh r f2 c1 hr⟩
    have head : ∀ r, (bif decide (st j = (-117)) then ((ur_call ur_G (d + 2) 31 [.ref a] (s, f1, g, R)).bind fun q8 => (bif decide (q8.1 ≠ 0) then ((ur_call ur_G (d + 2) 30 [.ref a, .int (0 : Int32)] q8.2).bind fun q9 => ur_at ur_G (d + 2) 27 (8, [some (.ref a), some (.int u), some (.int t), some (.int y), some (.int n), some (.int (nI (j + 1))), none], [], q9.2)) else ((ur_call ur_G (d + 2) 30 [.ref a, .int (1 : Int32)] q8.2).bind fun q10 => ur_at ur_G (d + 2) 27 (8, [some (.ref a), some (.int u), some (.int t), some (.int y), some (.int n), some (.int (nI (j + 1))), none], [], q10.2)))) else (bif decide (st j = (-4)) then ((ur_call ur_G (d + 2) 30 [.ref a, .int n] (s, f1, g, R)).bind fun q11 => ur_at ur_G (d + 2) 27 (8, [some (.ref a), some (.int u), some (.int t), some (.int y), some (.int n), some (.int (nI (j + 1))), none], [], q11.2)) else (bif decide (st j = (-3)) then ((ur_call ur_G (d + 2) 30 [.ref a, .int y] (s, f1, g, R)).bind fun q12 => ur_at ur_G (d + 2) 27 (8, [some (.ref a), some (.int u), some (.int t), some (.int y), some (.int n), some (.int (nI (j + 1))), none], [], q12.2)) else (bif decide (st j = (-2)) then ((ur_call ur_G (d + 2) 30 [.ref a, .int t] (s, f1, g, R)).bind fun q13 => ur_at ur_G (d + 2) 27 (8, [some (.ref a), some (.int u), some (.int t), some (.int y), some (.int n), some (.int (nI (j + 1))), none], [], q13.2)) else (bif decide (st j = (-1)) then ((ur_call ur_G (d + 2) 30 [.ref a, .int u] (s, f1, g, R)).bind fun q14 => ur_at ur_G (d + 2) 27 (8, [some (.ref a), some (.int u), some (.int t), some (.int y), some (.int n), some (.int (nI (j + 1))), none], [], q14.2)) else ((ur_call ur_G (d + 2) 28 [.ref a, .int (st j)] (s, f1, g, R)).bind fun q15 => ur_at ur_G (d + 2) 27 (8, [some (.ref a), some (.int u), some (.int t), some (.int y), some (.int n), some (.int (nI (j + 1))), none], [], q15.2))))))) = some r → ur_at ur_G (d + 2) 27 (8, [some (.ref a), some (.int u), some (.int t), some (.int y), some (.int n), some (.int (nI j)), none], [], (s, f1, g, R)) = some r := by
      intro r hr
      refine e_X2_valueOf_8 _ _ _ _ _ _ _ ?_
      simp only [hA.I, Option.bind_some, e2, d_le (show z < 2 ^ 31 by omega) (show j < 2 ^ 31 by omega), decide_eq_false (show ¬ z ≤ j by omega), cond_false, hA.r0, hA.a1 (show j < 1000 by omega), e1, nI_1]
      exact hr
    cases h1 : decide (st j = -117) with
    | true =>
      obtain ⟨f2, c1, c2, c3⟩ := s_pop (d := d + 1) (g := g) hA i1 hle
      obtain ⟨f3, e1', e2', e3'⟩ := s_push (d := d + 1) (g := g) (v := bif decide (poV X ≠ 0) then 0 else 1) hA c2 (poX_le hle)
      refine ⟨f3, ⟨?_, (i2.trans c3).trans e3'⟩, fun r hr => head r ?_⟩
      · rw [hst2]
        unfold stX
        rw [h1, cond_true]
        exact e2'
      · simp only [h1, cond_true, c1, Option.bind_some]
        cases hq : decide (poV X ≠ 0) with
        | true => rw [hq] at e1'; simp only [cond_true] at e1' ⊢; rw [e1']; exact hr
        | false => rw [hq] at e1'; simp only [cond_false] at e1' ⊢; rw [e1']; exact hr
    | false =>
      cases h2 : decide (st j = -4) with
      | true => exact pu n (by unfold stX; rw [h1, h2]; rfl) (fun r f2 hc hr => head r (by simp only [h1, h2, cond_true, cond_false, hc, Option.bind_some]; exact hr))
      | false =>
        cases h3 : decide (st j = -3) with
        | true => exact pu y (by unfold stX; rw [h1, h2, h3]; rfl) (fun r f2 hc hr => head r (by simp only [h1, h2, h3, cond_true, cond_false, hc, Option.bind_some]; exact hr))
        | false =>
          cases h4 : decide (st j = -2) with
          | true => exact pu t (by unfold stX; rw [h1, h2, h3, h4]; rfl) (fun r f2 hc hr => head r (by simp only [h1, h2, h3, h4, cond_true, cond_false, hc, Option.bind_some]; exact hr))
          | false =>
            cases h5 : decide (st j = -1) with
            | true => exact pu u (by unfold stX; rw [h1, h2, h3, h4, h5]; rfl) (fun r f2 hc hr => head r (by simp only [h1, h2, h3, h4, h5, cond_true, cond_false, hc, Option.bind_some]; exact hr))
            | false =>
              obtain ⟨f2, c1, c2, c3⟩ := s_lfollow (d := d) (g := g) (c := st j) hA i1 hle
              refine ⟨f2, ⟨?_, i2.trans c3⟩, fun r hr => head r ?_⟩
              · rw [hst2]
                unfold stX
                rw [h1, h2, h3, h4, h5]
                exact c2
              · simp only [h1, h2, h3, h4, h5, cond_false, c1, Option.bind_some]
                exact hr
  · intro f1 ⟨i1, i2⟩
    have hle := ruX_le (st := st) (u := u) (t := t) (y := y) (n := n) (x := (0, f (a + 2))) (Nat.zero_le 32) z
    have e2 : f1 a 2 = nI z := by rw [i2 a 2 (by unfold TK; omega), hz]
    refine ⟨(vlX st z u t y n (f (a + 2)), (s, f1, g, R)), ?_, rfl, f1, rfl, i2⟩
    refine e_X2_valueOf_8 _ _ _ _ _ _ _ ?_
    unfold vlX
    generalize hX : ruX st u t y n z (0, f (a + 2)) = X at *
    obtain ⟨h, K⟩ := X
    cases h with
    | zero =>
      simp only [hA.I, Option.bind_some, e2, d_le (show z < 2 ^ 31 by omega) (show z < 2 ^ 31 by omega), Nat.le_refl, decide_true, cond_true, i1.1]
      rfl
    | succ h =>
      dsimp only at hle
      have i1a : f1 a 3 = nI (h + 1) := i1.1
      have i1b : f1 (a + 2) = K := i1.2
      simp only [hA.I, Option.bind_some, e2, d_le (show z < 2 ^ 31 by omega) (show z < 2 ^ 31 by omega), Nat.le_refl, decide_true, cond_true, i1a, decide_eq_false (nI_nle (n := h + 1) (by omega) (by omega)), cond_false, hA.r1, nI_pred, hA.a2 (show h < 32 by omega), i1b]
      rfl
end URL1

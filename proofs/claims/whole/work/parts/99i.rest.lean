/-! RESTS: pure, by the class where it returns, by the reference -/
def pzv (a b c m o : Int32) : Int32 := bif decide (m ≠ 1) then (bif decide (o ≠ 1) then 0 else c) else (bif decide (o ≠ 1) then b else -a)
def arB (a b c m o : Int32) : Bool := !decide (pzv a b c m o < pzv a b c (1 - m) o) && !decide (pzv a b c o m < pzv a b c (1 - o) m)
def rsP (x : Int32) : Bool := !decide (x < 0) && !decide (9 < x)
def arK (a b c : Int32) (k : Nat) : Bool := arB a b c (nI (k / 2)) (nI (k % 2))
def rsF (a b c w : Int32) : Nat → Nat → Int32 → Int32 ⊕ Int32
  | 0, _, n => .inr n
  | t + 1, k, n => bif arK a b c k then (bif decide (n = w) then .inl (nI k) else rsF a b c w t (k + 1) (n + 1)) else rsF a b c w t (k + 1) n
def rsO (a b c w : Int32) : Bool := rsP a && (rsP b && (rsP c && decide (-1 ≤ w)))
def rsE (w : Int32) (r : Int32 ⊕ Int32) : Option Int32 := match r with
  | .inl k => some k
  | .inr n => bif decide (w = -1) then some n else none
def rsR (a b c w : Int32) : Option Int32 := bif rsO a b c w then rsE w (rsF a b c w 4 0 0) else none
def rsT (o : Option Int32) : Int32 := match o with
  | some _ => 0
  | none => 1
section URRS
variable {s : List (Nat ⊕ (Nat × Nat))} {f f' : Nat → Nat → Int32} {g : Nat → Nat → Int64} {R : Nat → Nat → Option Nat} {d k z : Nat} {a b c w v m o x : Int32} {M : ur_M}
theorem u_prize : ur_call ur_G (d + 1) 131 [.int m, .int o, .int a, .int b, .int c] M = some (pzv a b c m o, M) := by
  refine ur_cl rfl rfl (e_X9_prize_0 _ _ _ _ _ _ ?_)
  unfold pzv
  cases decide (m ≠ 1) <;> cases decide (o ≠ 1) <;> rfl
theorem u_gets : ur_call ur_G (d + 1) 244 [.int a, .int b, .int c, .int m, .int o] M = some (pzv a b c m o, M) := by
  refine ur_cl rfl rfl (e_X10_getsBy_0 _ _ _ _ _ _ ?_)
  unfold pzv
  cases decide (m ≠ 1) <;> cases decide (o ≠ 1) <;> rfl
theorem u_isPrize : ur_call ur_G (d + 1) 129 [.int x] M = some (ur_b (rsP x), M) := by
  refine ur_cl rfl rfl (e_X9_isPrize_0 _ _ ?_)
  unfold rsP
  cases decide (x < 0) <;> cases decide ((9 : Int32) < x) <;> rfl
theorem u_within : ur_call ur_G (d + 1) 140 [.int x, .int (0 : Int32), .int (9 : Int32)] M = some (ur_b (rsP x), M) := by
  refine ur_cl rfl rfl (e_X10_within_0 _ _ _ _ ?_)
  unfold rsP
  cases decide (x < 0) <;> cases decide ((9 : Int32) < x) <;> rfl
theorem k_half : ∀ k, k < 4 → nI k >>> ((1 : Int32) &&& 31) = nI (k / 2) ∧ nI k &&& (1 : Int32) = nI (k % 2) ∧ nI k / (2 : Int32) = nI (k / 2) ∧ nI k - nI (k / 2) * (2 : Int32) = nI (k % 2) := by decide
theorem u_rest (hk : k < 4) : ur_call ur_G (d + 2) 130 [.int (nI k), .int a, .int b, .int c] M = some (ur_b (arK a b c k), M) := by
  obtain ⟨h1, h2, -, -⟩ := k_half k hk
  refine ur_cl rfl rfl (e_X9_isAtRest_0 _ _ _ _ _ ?_)
  simp only [h1, h2, u_prize, Option.bind_some]
  unfold arK arB
  cases decide (pzv a b c (nI (k / 2)) (nI (k % 2)) < pzv a b c (1 - nI (k / 2)) (nI (k % 2))) <;> cases decide (pzv a b c (nI (k % 2)) (nI (k / 2)) < pzv a b c (1 - nI (k % 2)) (nI (k / 2))) <;> rfl
theorem b_ne (q : Bool) : decide (ur_b q = 0) = !q := by cases q <;> rfl
theorem x_rests (hr : ur_isO M z 9 = true) (h : rsR a b c w = some v) : ur_call ur_G (d + 4) 128 [.ref z, .int a, .int b, .int c, .int w] M = some (v, M) := by
  have key : ∀ (t k : Nat) (n : Int32), t + k = 4 → rsE w (rsF a b c w t k n) = some v → ur_at ur_G (d + 3) 128 (41, [none, some (.int a), some (.int b), some (.int c), some (.int w), some (.int n), some (.int (nI k))], [], M) = some (v, M) := by
    intro t
    induction t with
    | zero =>
      intro k n hk h
      have : k = 4 := by omega
      subst this
      refine e_X9_rests_41 _ _ _ _ _ _ _ ?_
      rw [show decide ((4 : Int32) ≤ nI 4) = true from by decide]
      have h : (bif decide (w = -1) then some n else none) = some v := h
      revert h
      cases decide (w = -1) with
      | true => intro h; cases h; rfl
      | false => intro h; cases h
    | succ t ih =>
      intro k n hk h
      refine e_X9_rests_41 _ _ _ _ _ _ _ ?_
      have h : rsE w (bif arK a b c k then (bif decide (n = w) then .inl (nI k) else rsF a b c w t (k + 1) (n + 1)) else rsF a b c w t (k + 1) n) = some v := h
      have h4 : decide ((4 : Int32) ≤ nI k) = false := (d_le (a := 4) (by decide) (by omega)).trans (decide_eq_false (by omega))
      simp only [h4, cond_false, u_rest (show k < 4 by omega), Option.bind_some, b_ne, nI_1]
      revert h
      cases arK a b c k with
      | false =>
        intro h
        exact ih (k + 1) n (by omega) h
      | true =>
        intro h
        by_cases e : n = w
        · rw [decide_eq_true e] at h
          rw [show decide (n ≠ w) = false from decide_eq_false (fun y => y e)]
          have h : some (nI k) = some v := h
          cases h
          rfl
        · rw [decide_eq_false e] at h
          rw [show decide (n ≠ w) = true from decide_eq_true e]
          exact ih (k + 1) (n + 1) (by omega) h
  unfold rsR rsO at h
  refine ur_cl hr rfl (e_X9_rests_0 _ _ _ _ _ _ ?_)
  simp only [u_isPrize, Option.bind_some, b_ne]
  revert h
  cases rsP a <;> cases rsP b <;> cases rsP c <;> first | (intro h; cases h; done) | skip
  cases decide (-1 ≤ w) with
  | false => intro h; cases h
  | true => exact fun h => key 4 0 0 rfl h
theorem m_rests (hM : oModel s R 208) : ∃ v' f', ur_call ur_G (d + 4) 245 [.ref 208, .int a, .int b, .int c, .int w] (s, f, g, R) = some (v', (s, f', g, R)) ∧ eqT (fun a k => a = 208 ∧ k = 0) f f' ∧ f' 208 0 = rsT (rsR a b c w) ∧ ∀ v, rsR a b c w = some v → v' = v := by
  have key : ∀ (t k : Nat) (n : Int32) (f : Nat → Nat → Int32), f 208 0 = 0 → t + k = 4 → ∃ v' f', ur_at ur_G (d + 3) 245 (61, [some (.ref 208), some (.int a), some (.int b), some (.int c), some (.int w), some (.int n), some (.int (nI k)), none, none], [], (s, f, g, R)) = some (v', (s, f', g, R)) ∧ eqT (fun a k => a = 208 ∧ k = 0) f f' ∧ f' 208 0 = rsT (rsE w (rsF a b c w t k n)) ∧ ∀ v, rsE w (rsF a b c w t k n) = some v → v' = v := by
    intro t
    induction t with
    | zero =>
      intro k n f hf hk
      have : k = 4 := by omega
      subst this
      show ∃ (v' : Int32) (f' : Nat → Nat → Int32), _ ∧ _ ∧ f' 208 0 = rsT (bif decide (w = -1) then some n else none) ∧ ∀ v, (bif decide (w = -1) then some n else none) = some v → v' = v
      by_cases e : w = -1
      · refine ⟨n, ur_u f 208 0 0, e_X10_rests_61 _ _ _ _ _ _ _ _ ?_, eqT_u ⟨rfl, rfl⟩, ?_, ?_⟩
        · simp only [show decide ((4 : Int32) ≤ nI 4) = true from by decide, cond_true, show decide (w ≠ -1) = false from decide_eq_false (fun y => y e), cond_false, hM.pI, Option.bind_some]
        · rw [decide_eq_true e]; exact ur_us
        · rw [decide_eq_true e]; intro v h; cases h; rfl
      · refine ⟨0, ur_u f 208 0 1, e_X10_rests_61 _ _ _ _ _ _ _ _ ?_, eqT_u ⟨rfl, rfl⟩, ?_, ?_⟩
        · simp only [show decide ((4 : Int32) ≤ nI 4) = true from by decide, cond_true, show decide (w ≠ -1) = true from decide_eq_true e, hM.pI, Option.bind_some]
        · rw [decide_eq_false e]; exact ur_us
        · rw [decide_eq_false e]; intro v h; cases h
    | succ t ih =>
      intro k n f hf hk
      obtain ⟨-, -, h3, h4⟩ := k_half k (by omega)
      have h5 : decide ((4 : Int32) ≤ nI k) = false := (d_le (a := 4) (by decide) (by omega)).trans (decide_eq_false (by omega))
      have goF : ∀ (F : Int32 ⊕ Int32) (v' : Int32) (f' : Nat → Nat → Int32), F = rsF a b c w (t + 1) k n → (ur_at ur_G (d + 3) 245 (61, [some (.ref 208), some (.int a), some (.int b), some (.int c), some (.int w), some (.int n), some (.int (nI k)), none, none], [], (s, f, g, R)) = some (v', (s, f', g, R)) ∧ eqT (fun a k => a = 208 ∧ k = 0) f f' ∧ f' 208 0 = rsT (rsE w F) ∧ ∀ v, rsE w F = some v → v' = v) → ∃ v' f', ur_at ur_G (d + 3) 245 (61, [some (.ref 208), some (.int a), some (.int b), some (.int c), some (.int w), some (.int n), some (.int (nI k)), none, none], [], (s, f, g, R)) = some (v', (s, f', g, R)) ∧ eqT (fun a k => a = 208 ∧ k = 0) f f' ∧ f' 208 0 = rsT (rsE w (rsF a b c w (t + 1) k n)) ∧ ∀ v, rsE w (rsF a b c w (t + 1) k n) = some v → v' = v := fun F v' f' hF h => by rw [← hF]; exact ⟨v', f', h⟩
      obtain ⟨v0, f0, y1, y2, y3, y4⟩ := ih (k + 1) n f hf (by omega)
      obtain ⟨v1, f1, z1, z2, z3, z4⟩ := ih (k + 1) (n + 1) f hf (by omega)
      have e1 : rsF a b c w (t + 1) k n = (bif arK a b c k then (bif decide (n = w) then .inl (nI k) else rsF a b c w t (k + 1) (n + 1)) else rsF a b c w t (k + 1) n) := rfl
      by_cases c1 : pzv a b c (nI (k / 2)) (nI (k % 2)) < pzv a b c (1 - nI (k / 2)) (nI (k % 2))
      · have ea : arK a b c k = false := by unfold arK arB; rw [decide_eq_true c1]; rfl
        rw [ea, cond_false] at e1
        refine goF _ v0 f0 e1.symm ⟨e_X10_rests_61 _ _ _ _ _ _ _ _ ?_, y2, y3, y4⟩
        simp only [h5, cond_false, h3, h4, u_gets, Option.bind_some, decide_eq_true c1, cond_true, nI_1]
        exact y1
      · by_cases c2 : pzv a b c (nI (k % 2)) (nI (k / 2)) < pzv a b c (1 - nI (k % 2)) (nI (k / 2))
        · have ea : arK a b c k = false := by unfold arK arB; rw [decide_eq_false c1, decide_eq_true c2]; rfl
          rw [ea, cond_false] at e1
          refine goF _ v0 f0 e1.symm ⟨e_X10_rests_61 _ _ _ _ _ _ _ _ ?_, y2, y3, y4⟩
          simp only [h5, cond_false, h3, h4, u_gets, Option.bind_some, decide_eq_false c1, decide_eq_false (show ¬ pzv a b c (1 - nI (k % 2)) (nI (k / 2)) ≤ pzv a b c (nI (k % 2)) (nI (k / 2)) from fun y => absurd c2 (Int32.not_lt.mpr y)), nI_1]
          exact y1
        · have ea : arK a b c k = true := by unfold arK arB; rw [decide_eq_false c1, decide_eq_false c2]; rfl
          rw [ea, cond_true] at e1
          by_cases e : n = w
          · rw [decide_eq_true e, cond_true] at e1
            refine goF _ (nI k) f e1.symm ⟨e_X10_rests_61 _ _ _ _ _ _ _ _ ?_, eqT.refl, hf, fun v h => by cases h; rfl⟩
            simp only [h5, cond_false, h3, h4, u_gets, Option.bind_some, decide_eq_false c1, decide_eq_true (show pzv a b c (1 - nI (k % 2)) (nI (k / 2)) ≤ pzv a b c (nI (k % 2)) (nI (k / 2)) from Int32.not_lt.mp c2), cond_true, show decide (n ≠ w) = false from decide_eq_false (fun y => y e)]
          · rw [decide_eq_false e, cond_false] at e1
            refine goF _ v1 f1 e1.symm ⟨e_X10_rests_61 _ _ _ _ _ _ _ _ ?_, z2, z3, z4⟩
            simp only [h5, cond_false, h3, h4, u_gets, Option.bind_some, decide_eq_false c1, decide_eq_true (show pzv a b c (1 - nI (k % 2)) (nI (k / 2)) ≤ pzv a b c (nI (k % 2)) (nI (k / 2)) from Int32.not_lt.mp c2), cond_true, show decide (n ≠ w) = true from decide_eq_true e, nI_1]
            exact z1
  have bad : rsO a b c w = false → ((ur_call ur_G (d + 4) 245 [.ref 208, .int a, .int b, .int c, .int w] (s, f, g, R) = some (0, (s, ur_u f 208 0 1, g, R)))) → ∃ v' f', ur_call ur_G (d + 4) 245 [.ref 208, .int a, .int b, .int c, .int w] (s, f, g, R) = some (v', (s, f', g, R)) ∧ eqT (fun a k => a = 208 ∧ k = 0) f f' ∧ f' 208 0 = rsT (rsR a b c w) ∧ ∀ v, rsR a b c w = some v → v' = v := fun ho hc => by
    have er : rsR a b c w = none := by unfold rsR; rw [ho]; rfl
    rw [er]
    exact ⟨0, _, hc, eqT_u ⟨rfl, rfl⟩, ur_us, fun v h => by cases h⟩
  have n1 : ∀ q : Bool, decide (ur_b q = 0) = !q := b_ne
  have w1 : decide (w < -1) = !decide (-1 ≤ w) := by
    by_cases e : w < -1
    · rw [decide_eq_true e, decide_eq_false (fun y => absurd e (Int32.not_lt.mpr y))]; rfl
    · rw [decide_eq_false e, decide_eq_true (Int32.not_lt.mp e)]; rfl
  have d1 : decide ((1 : Int32) ≠ 1) = false := by decide
  have d0 : decide ((0 : Int32) ≠ 1) = true := by decide
  cases ea : rsP a with
  | false =>
    refine bad (by unfold rsO; rw [ea]; rfl) (ur_cl hM.rcv rfl (e_X10_rests_0 _ _ _ _ _ _ ?_))
    simp only [u_within, Option.bind_some, n1, ea, Bool.not_false, cond_true, hM.pI, hM.I, ur_us, d1, cond_false]
  | true =>
    cases eb : rsP b with
    | false =>
      refine bad (by unfold rsO; rw [ea, eb]; rfl) (ur_cl hM.rcv rfl (e_X10_rests_0 _ _ _ _ _ _ ?_))
      simp only [u_within, Option.bind_some, n1, ea, eb, Bool.not_false, Bool.not_true, cond_true, hM.pI, hM.I, ur_us, d1, cond_false]
    | true =>
      cases ec : rsP c with
      | false =>
        refine bad (by unfold rsO; rw [ea, eb, ec]; rfl) (ur_cl hM.rcv rfl (e_X10_rests_0 _ _ _ _ _ _ ?_))
        simp only [u_within, Option.bind_some, n1, ea, eb, ec, Bool.not_false, Bool.not_true, cond_true, hM.pI, hM.I, ur_us, d1, cond_false]
      | true =>
        cases ew : decide (-1 ≤ w) with
        | false =>
          refine bad (by unfold rsO; rw [ea, eb, ec, ew]; rfl) (ur_cl hM.rcv rfl (e_X10_rests_0 _ _ _ _ _ _ ?_))
          simp only [u_within, Option.bind_some, n1, ea, eb, ec, w1, ew, Bool.not_false, Bool.not_true, cond_true, hM.pI, hM.I, ur_us, d1, cond_false]
        | true =>
          have er : rsR a b c w = rsE w (rsF a b c w 4 0 0) := by unfold rsR rsO; rw [ea, eb, ec, ew]; rfl
          obtain ⟨v0, f0, y1, y2, y3, y4⟩ := key 4 0 0 (ur_u f 208 0 0) ur_us rfl
          rw [er]
          refine ⟨v0, f0, ur_cl hM.rcv rfl (e_X10_rests_0 _ _ _ _ _ _ ?_), (eqT_u (T := fun a k => a = 208 ∧ k = 0) ⟨rfl, rfl⟩).trans y2, y3, y4⟩
          simp only [u_within, Option.bind_some, n1, ea, eb, ec, w1, ew, Bool.not_true, cond_true, hM.pI, hM.I, ur_us, d0, cond_false]
          exact y1
theorem m_thrown (hM : oModel s R 208) : ur_call ur_G (d + 1) 139 [.ref 208] (s, f, g, R) = some (f 208 0, (s, f, g, R)) := by
  refine ur_cl hM.rcv rfl (e_X10_thrown_0 _ _ ?_)
  simp only [hM.I, Option.bind_some]
end URRS

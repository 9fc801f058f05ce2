/-! judged, on both sides -/
def jdS (E : Int32 → Int32 → Int32 → Int32 → Int32) (l : Nat → Nat → Int32) (N P : Nat) (t : Nat → Nat × Nat × Nat) (i : Nat) (x : (Nat → Nat → Int32) × Int32 × Int32) : (Nat → Nat → Int32) × Int32 × Int32 :=
  ((foV E l x.1 N P (t i).1 (t i).2.1 (t i).2.2).2, (bif (foV E l x.1 N P (t i).1 (t i).2.1 (t i).2.2).1 then x.2.1 else bif decide (x.2.1 ≠ -1) then x.2.1 else nI i), (bif decide ((foV E l x.1 N P (t i).1 (t i).2.1 (t i).2.2).2 0 7 ≤ 0) then x.2.2 else bif decide (x.2.2 ≠ -1) then x.2.2 else nI i))
def jdV (E : Int32 → Int32 → Int32 → Int32 → Int32) (l : Nat → Nat → Int32) (N P : Nat) (t : Nat → Nat × Nat × Nat) (V : Nat → Nat → Int32) (k : Nat) : (Nat → Nat → Int32) × Int32 × Int32 := itr (jdS E l N P t) k (V, -1, -1)
def isN (x : Int32) : Prop := x = -1 ∨ ∃ q, q < 2 ^ 31 ∧ x = nI q
theorem isN_d {x : Int32} (h : isN x) : decide (0 ≤ x) = decide (x ≠ -1) := by
  rcases h with rfl | ⟨q, hq, rfl⟩
  · decide
  · rw [decide_eq_true (nI_pos' hq), decide_eq_true (nI_ne_m1 hq)]
theorem jd_isN {E : Int32 → Int32 → Int32 → Int32 → Int32} {l : Nat → Nat → Int32} {N P : Nat} {t : Nat → Nat × Nat × Nat} {V : Nat → Nat → Int32} : ∀ k, k < 2 ^ 31 → isN (jdV E l N P t V k).2.1 ∧ isN (jdV E l N P t V k).2.2
  | 0, _ => ⟨Or.inl rfl, Or.inl rfl⟩
  | k + 1, hk => by
    obtain ⟨h1, h2⟩ := jd_isN (E := E) (l := l) (N := N) (P := P) (t := t) (V := V) k (by omega)
    have e : jdV E l N P t V (k + 1) = jdS E l N P t k (jdV E l N P t V k) := rfl
    rw [e]
    unfold jdS
    dsimp only
    constructor
    · cases (foV E l (jdV E l N P t V k).1 N P (t k).1 (t k).2.1 (t k).2.2).1 with
      | true => exact h1
      | false =>
        cases decide ((jdV E l N P t V k).2.1 ≠ -1) with
        | true => exact h1
        | false => exact Or.inr ⟨k, by omega, rfl⟩
    · cases decide ((foV E l (jdV E l N P t V k).1 N P (t k).1 (t k).2.1 (t k).2.2).2 0 7 ≤ 0) with
      | true => exact h2
      | false =>
        cases decide ((jdV E l N P t V k).2.2 ≠ -1) with
        | true => exact h2
        | false => exact Or.inr ⟨k, by omega, rfl⟩
section URJ8
variable {s : List (Nat ⊕ (Nat × Nat))} {f f' f1 f2 l V V' : Nat → Nat → Int32} {g : Nat → Nat → Int64} {R : Nat → Nat → Option Nat} {L L' K K' D d b j p P N w n k k' a i z : Nat} {U r x y v : Int32} {E : Int32 → Int32 → Int32 → Int32 → Int32} {S : Nat → Int32} {t : Nat → Nat × Nat × Nat}
/-- the lines as both have them -/
def lnJ (f : Nat → Nat → Int32) (K z N P : Nat) (t : Nat → Nat × Nat × Nat) : Prop := ∀ i, i < z → f (K + 1) i = nI (108 + (t i).1) ∧ f 234 i = nI (t i).1 ∧ lnX N P (t i).1 (f (K + 2) i) (f (K + 3) i) (t i).2.1 (t i).2.2 ∧ lnX N P (t i).1 (f 235 i) (f 236 i) (t i).2.1 (t i).2.2
theorem scR.ln (h : scR f K 0 N P) : ∃ z t, z ≤ 40 ∧ f K 3 = nI z ∧ f 233 0 = nI z ∧ lnJ f K z N P t := by
  obtain ⟨z, h1, h2, h3, h4⟩ := h
  have : ∀ i, ∃ t : Nat × Nat × Nat, i < z → f (K + 1) i = nI (108 + t.1) ∧ f 234 i = nI t.1 ∧ lnX N P t.1 (f (K + 2) i) (f (K + 3) i) t.2.1 t.2.2 ∧ lnX N P t.1 (f 235 i) (f 236 i) t.2.1 t.2.2 := fun i => by
    by_cases hi : i < z
    · obtain ⟨k, p, j, c⟩ := h4 i hi
      rw [show 40 * 0 + i = i by omega] at c
      exact ⟨(k, p, j), fun _ => c⟩
    · exact ⟨(0, 0, 0), fun q => absurd q hi⟩
  obtain ⟨t, ht⟩ := Classical.axiomOfChoice this
  exact ⟨z, t, h1, h2, h3, fun i hi => ht i hi⟩
theorem x_judged (hX : oX s R L L' K K') (hE : lwX l E) (hc : cX s R f 39 L l V N P) (hw : wfV l V N P) (hz : z ≤ 40) (hK : f K 3 = nI z) (hln : lnJ f K z N P t) (hy : inR y 3 = true) : ∃ f', ur_at ur_G (d + 7) 95 (30, [some (.ref 0), some (.int y), some (.int (-1)), some (.int (-1)), some (.int 0), none], [], (s, f, g, R)) = some (bif decide (y ≠ 2) then (bif decide (y ≠ 0) then (jdV E l N P t V z).2.2 else (jdV E l N P t V z).2.1) else itr (fun p (a : Int32) => a + (jdV E l N P t V z).1 5 p) P 0, (s, f', g, R)) ∧ eqT SX f f' := by
  have hL := hX.eL
  have hKK := hX.eK
  have main := lp (n := z) (Fn := fun j (x : (Nat → Nat → Int32) × Int32 × Int32) => ur_at ur_G (d + 7) 95 (30, [some (.ref 0), some (.int y), some (.int x.2.1), some (.int x.2.2), some (.int (nI j)), none], [], (s, x.1, g, R)))
    (I := fun j x => cX s R x.1 39 L l (jdV E l N P t V j).1 N P ∧ wfV l (jdV E l N P t V j).1 N P ∧ x.2 = (jdV E l N P t V j).2 ∧ eqT SX f x.1)
    (Q := fun r => r.1 = (bif decide (y ≠ 2) then (bif decide (y ≠ 0) then (jdV E l N P t V z).2.2 else (jdV E l N P t V z).2.1) else itr (fun p (a : Int32) => a + (jdV E l N P t V z).1 5 p) P 0) ∧ ∃ f', r.2 = (s, f', g, R) ∧ eqT SX f f') ?_ ?_ (f, -1, -1) ⟨hc, hw, rfl, eqT.refl⟩
  · obtain ⟨⟨v', m⟩, e1, e2, f', e3, e4⟩ := main
    dsimp only at e2 e3
    subst e2 e3
    exact ⟨f', e1, e4⟩
  · rintro j ⟨f1, fr, fn⟩ hj ⟨i1, i2, i3, i4⟩
    dsimp only at i1 i3 i4
    have rk : ∀ a k, K ≤ a → a < K + 4 → f1 a k = f a k := fun a k h1 h2 => i4 a k (fun q => by unfold SX TL at q; omega)
    obtain ⟨l1, l2, l3, l4⟩ := hln j hj
    obtain ⟨f2, c1, c2, c3⟩ := c_follow (d := d + 1) (g := g) i1 hE i2.ok i2.st (fun j _ => i2.fl j) l3
    have i2' := i2.fo (E := E) l3
    have cX2 := i1.fr c3 c2 (TNL_L i1.dd)
    have e : jdV E l N P t V (j + 1) = jdS E l N P t j (jdV E l N P t V j) := rfl
    refine ⟨(f2, (jdV E l N P t V (j + 1)).2), ⟨?_, ?_, rfl, i4.trans (c3.mono (TNL_SX hL))⟩, fun r hr => e_X9_judged_30 _ _ _ _ _ _ ?_⟩
    · rw [e]; exact cX2
    · rw [e]; exact i2'
    · have eK : f1 K 3 = nI z := by rw [rk K 3 (by omega) (by omega), hK]
      have e1 : f1 (K + 1) j = nI (108 + (t j).1) := by rw [rk (K + 1) j (by omega) (by omega), l1]
      have e2 : f1 (K + 2) j = f (K + 2) j := rk (K + 2) j (by omega) (by omega)
      have e3 : f1 (K + 3) j = f (K + 3) j := rk (K + 3) j (by omega) (by omega)
      have hfr : fr = (jdV E l N P t V j).2.1 := congrArg Prod.fst i3
      have hfn : fn = (jdV E l N P t V j).2.2 := congrArg Prod.snd i3
      -- behind the line
      have k98 : ∀ q, q = (bif (foV E l (jdV E l N P t V j).1 N P (t j).1 (t j).2.1 (t j).2.2).1 then (jdV E l N P t V j).2.1 else bif decide ((jdV E l N P t V j).2.1 ≠ -1) then (jdV E l N P t V j).2.1 else nI j) → ur_at ur_G (d + 7) 95 (98, [some (.ref 0), some (.int y), some (.int q), some (.int fn), some (.int (nI j)), none], [], (s, f2, g, R)) = some r := fun q hq => by
        refine e_X9_judged_98 _ _ _ _ _ _ ?_
        simp only [hX.r6, Option.bind_some, hX.tri.I, cX2.f0, nI_1]
        rw [e] at hr
        unfold jdS at hr
        dsimp only at hr
        rw [hfn]
        rw [← hq] at hr
        cases q1 : decide ((foV E l (jdV E l N P t V j).1 N P (t j).1 (t j).2.1 (t j).2.2).2 0 7 ≤ 0) with
        | true => rw [q1] at hr; exact hr
        | false =>
          rw [q1] at hr
          cases q2 : decide ((jdV E l N P t V j).2.2 ≠ -1) with
          | true => rw [q2] at hr; exact hr
          | false => rw [q2] at hr; exact hr
      simp only [hX.r3, hX.scr.I, eK, Option.bind_some, d_le (show z < 2 ^ 31 by omega) (show j < 2 ^ 31 by omega), decide_eq_false (show ¬ z ≤ j by omega), cond_false, hX.r6, hX.r1, hX.scr.r0, hX.scr.r1, hX.scr.r2, hX.scr.a1 (show j < 40 by omega), hX.scr.a2 (show j < 40 by omega), hX.scr.a3 (show j < 40 by omega), e1, e2, e3, c1, ub_n0]
      rw [hfr]
      cases q1 : (foV E l (jdV E l N P t V j).1 N P (t j).1 (t j).2.1 (t j).2.2).1 with
      | true => exact k98 _ (by rw [q1]; rfl)
      | false =>
        simp only [cond_false]
        cases q2 : decide ((jdV E l N P t V j).2.1 ≠ -1) with
        | true => exact k98 _ (by rw [q1, q2]; rfl)
        | false => exact k98 _ (by rw [q1, q2]; rfl)
  · rintro ⟨f1, fr, fn⟩ ⟨i1, i2, i3, i4⟩
    dsimp only at i1 i3 i4
    have rk : ∀ a k, K ≤ a → a < K + 4 → f1 a k = f a k := fun a k h1 h2 => i4 a k (fun q => by unfold SX TL at q; omega)
    have eK : f1 K 3 = nI z := by rw [rk K 3 (by omega) (by omega), hK]
    have hfr : fr = (jdV E l N P t V z).2.1 := congrArg Prod.fst i3
    have hfn : fn = (jdV E l N P t V z).2.2 := congrArg Prod.snd i3
    refine ⟨(_, (s, f1, g, R)), e_X9_judged_30 _ _ _ _ _ _ ?_, rfl, f1, rfl, i4⟩
    simp only [hX.r3, hX.scr.I, eK, Option.bind_some, d_le (show z < 2 ^ 31 by omega) (show z < 2 ^ 31 by omega), Nat.le_refl, decide_true, cond_true, hX.r6, hX.r1, s_allBeen i1.oN i1.oL i1.ep i1.p5, i1.bn 5 (by decide), hfr, hfn]
    cases decide (y ≠ 2)
    · rfl
    · cases decide (y ≠ 0) <;> rfl
theorem m_judged (h : cM s R f b l V N P E) (hz : z ≤ 40) (hK : f (b + 25) 0 = nI z) (hln : ∀ i, i < z → f (b + 26) i = nI (t i).1 ∧ lnX N P (t i).1 (f (b + 27) i) (f (b + 28) i) (t i).2.1 (t i).2.2) {f0 f9 : Nat → Nat → Int32} (hs : ∀ k, k < 29 → f9 (b + 34) k = f0 (b + 33) k) (t1 : eqT (SR b) f0 f9) (t2 : eqT (TM b) f9 f) (hy : inR y 3 = true) : ∃ f', ur_at ur_G (d + 7) 212 (41, [some (.ref b), some (.int y), some (.int (-1)), some (.int (-1)), some (.int 0)], [], (s, f, g, R)) = some (bif decide (y ≠ 2) then (bif decide (y ≠ 0) then (jdV E l N P t V z).2.2 else (jdV E l N P t V z).2.1) else itr (fun p (a : Int32) => a + (jdV E l N P t V z).1 5 p) P 0, (s, f', g, R)) ∧ eqT (SR b) f0 f' := by
  have hM := h.oM
  have main := lp (n := z) (Fn := fun j (x : (Nat → Nat → Int32) × Int32 × Int32) => ur_at ur_G (d + 7) 212 (41, [some (.ref b), some (.int y), some (.int x.2.1), some (.int x.2.2), some (.int (nI j))], [], (s, x.1, g, R)))
    (I := fun j x => cM s R x.1 b l (jdV E l N P t V j).1 N P E ∧ x.2 = (jdV E l N P t V j).2 ∧ eqT (TM b) f x.1)
    (Q := fun r => r.1 = (bif decide (y ≠ 2) then (bif decide (y ≠ 0) then (jdV E l N P t V z).2.2 else (jdV E l N P t V z).2.1) else itr (fun p (a : Int32) => a + (jdV E l N P t V z).1 5 p) P 0) ∧ ∃ f', r.2 = (s, f', g, R) ∧ eqT (SR b) f0 f') ?_ ?_ (f, -1, -1) ⟨h, rfl, eqT.refl⟩
  · obtain ⟨⟨v', m⟩, e1, e2, f', e3, e4⟩ := main
    dsimp only at e2 e3
    subst e2 e3
    exact ⟨f', e1, e4⟩
  · rintro j ⟨f1, fr, fn⟩ hj ⟨i1, i3, i4⟩
    dsimp only at i1 i3 i4
    have rk : ∀ i, 25 ≤ i → i < 33 → f1 (b + i) = f (b + i) := fun i h1 h2 => i4.row (fun k q => by unfold TM at q; omega)
    obtain ⟨l1, l2⟩ := hln j hj
    obtain ⟨f2, c1, c2, c3⟩ := m_isDone (d := d + 1) (g := g) (i := j) i1 (by omega) (by rw [rk 26 (by decide) (by decide)]; exact l1) (by rw [rk 27 (by decide) (by decide), rk 28 (by decide) (by decide)]; exact l2)
    have e : jdV E l N P t V (j + 1) = jdS E l N P t j (jdV E l N P t V j) := rfl
    refine ⟨(f2, (jdV E l N P t V (j + 1)).2), ⟨?_, rfl, i4.trans c3⟩, fun r hr => e_X10_judged_41 _ _ _ _ _ _ ?_⟩
    · rw [e]; exact c2
    · have a25 : ur_aI (s, f1, g, R) (b + 25) 0 0 = some (f1 (b + 25) 0) := hM.a25 (show 0 < 6 by decide)
      have eK : f1 (b + 25) 0 = nI z := by rw [rk 25 (by decide) (by decide), hK]
      have hfr : fr = (jdV E l N P t V j).2.1 := congrArg Prod.fst i3
      have hfn : fn = (jdV E l N P t V j).2.2 := congrArg Prod.snd i3
      obtain ⟨n1, n2⟩ := jd_isN (E := E) (l := l) (N := N) (P := P) (t := t) (V := V) j (by omega)
      have a1 : ur_aI (s, f2, g, R) (b + 33) 0 1 = some (f2 (b + 33) 1) := hM.a33 (show 1 < 29 by decide)
      have k68 : ∀ q, q = (bif (foV E l (jdV E l N P t V j).1 N P (t j).1 (t j).2.1 (t j).2.2).1 then (jdV E l N P t V j).2.1 else bif decide ((jdV E l N P t V j).2.1 ≠ -1) then (jdV E l N P t V j).2.1 else nI j) → ur_at ur_G (d + 7) 212 (68, [some (.ref b), some (.int y), some (.int q), some (.int fn), some (.int (nI j))], [], (s, f2, g, R)) = some r := fun q hq => by
        refine e_X10_judged_68 _ _ _ _ _ _ ?_
        simp only [hM.r44, Option.bind_some, a1, c2.hn.1.2.1, nI_1]
        rw [e] at hr
        unfold jdS at hr
        dsimp only at hr
        rw [hfn, isN_d n2]
        rw [← hq] at hr
        cases q1 : decide ((foV E l (jdV E l N P t V j).1 N P (t j).1 (t j).2.1 (t j).2.2).2 0 7 ≤ 0) with
        | true => rw [q1] at hr; exact hr
        | false =>
          rw [q1] at hr
          cases q2 : decide ((jdV E l N P t V j).2.2 ≠ -1) with
          | true => rw [q2] at hr; exact hr
          | false => rw [q2] at hr; exact hr
      simp only [hM.r36, a25, eK, Option.bind_some, d_le (show z < 2 ^ 31 by omega) (show j < 2 ^ 31 by omega), decide_eq_false (show ¬ z ≤ j by omega), cond_false, c1, ub_n0]
      rw [hfr, isN_d n1]
      cases q1 : (foV E l (jdV E l N P t V j).1 N P (t j).1 (t j).2.1 (t j).2.2).1 with
      | true => exact k68 _ (by rw [q1]; rfl)
      | false =>
        simp only [cond_false]
        cases q2 : decide ((jdV E l N P t V j).2.1 ≠ -1) with
        | true => exact k68 _ (by rw [q1, q2]; rfl)
        | false => exact k68 _ (by rw [q1, q2]; rfl)
  · rintro ⟨f1, fr, fn⟩ ⟨i1, i3, i4⟩
    dsimp only at i1 i3 i4
    have rk : ∀ i, 25 ≤ i → i < 33 → f1 (b + i) = f (b + i) := fun i h1 h2 => i4.row (fun k q => by unfold TM at q; omega)
    have a25 : ur_aI (s, f1, g, R) (b + 25) 0 0 = some (f1 (b + 25) 0) := hM.a25 (show 0 < 6 by decide)
    have eK : f1 (b + 25) 0 = nI z := by rw [rk 25 (by decide) (by decide), hK]
    have hfr : fr = (jdV E l N P t V z).2.1 := congrArg Prod.fst i3
    have hfn : fn = (jdV E l N P t V z).2.2 := congrArg Prod.snd i3
    obtain ⟨f3, d1, d2⟩ := m_rest (d := d + 6) (g := g) (a := 34) hM (Or.inl rfl) (f0 := f0) (f1 := f9) hs t1 (t2.trans i4)
    refine ⟨(_, (s, f3, g, R)), e_X10_judged_41 _ _ _ _ _ _ ?_, rfl, f3, rfl, d2⟩
    simp only [hM.r36, a25, eK, Option.bind_some, d_le (show z < 2 ^ 31 by omega) (show z < 2 ^ 31 by omega), Nat.le_refl, decide_true, cond_true, t_allBeen hM, r_been i1.hl i1.hn, hM.r45, hM.r44, d1, hfr, hfn]
    rcases inR_c y (show 3 < 2 ^ 31 by decide) with ⟨k, hk, rfl⟩ | hx
    · match k, hk with
      | 0, _ => rfl
      | 1, _ => rfl
      | 2, _ => rfl
    · rw [hx] at hy; cases hy
theorem j_judged (h : JV s R f g L L' K K' l V N P E) : JQ s R f g (d + 60) 95 212 [.int y] := by
  have hX := h.oX
  have hc := h.cX
  have hM := h.cM
  have hO := hM.oM
  have hL := hX.eL
  have hKK := hX.eK
  have hd := hc.dd
  cases hy : inR y 3 with
  | false =>
    refine ⟨-2, f, ur_u f 208 0 0, ur_cl hX.rcv rfl (e_X9_judged_0 _ _ _ ?_), ur_cl hO.rcv rfl (e_X10_judged_0 _ _ _ ?_), QX_x eqT.refl (eqT_u SR_0)⟩
    · have e := inR_w (z := 2) (by decide) y
      rw [hy] at e
      have e1 : decide (y ≤ (2 : Int32)) = !decide (nI 2 < y) := by
        by_cases q : y ≤ (2 : Int32)
        · rw [decide_eq_true q, decide_eq_false (show ¬ nI 2 < y from Int32.not_lt.mpr q)]; rfl
        · rw [decide_eq_false q, decide_eq_true (show nI 2 < y from Int32.not_le.mp q)]; rfl
      rw [e1]
      cases q1 : decide (y < 0) with
      | true => rfl
      | false => rw [q1] at e; rw [show (!decide (nI 2 < y)) = false from by simpa using e]; rfl
    · simp only [hO.pI, Option.bind_some, show (2 : Int32) = nI 2 from rfl, wth y (show 2 + 1 < 2 ^ 31 by decide), hy]
      rfl
  | true =>
    obtain ⟨z, t, hz, z1, z2, hln⟩ := scR.ln h.2.2.2.1
    obtain ⟨f1, a1, a2, a3⟩ := c_begin (d := d + 57) (g := g) hX.tri hc.oL hc.bl (show L + 11 ≤ 39 by omega)
    have t1 : eqT SX f f1 := a3.mono TN_SX
    have hM1 := hM.sx t1
    obtain ⟨S, hS⟩ : ∃ S : Nat → Int32, S = frS (f (208 + 9)) P := ⟨_, rfl⟩
    have hwf : wfV l (blk f1 39) N P := ⟨f, 208, S, hM.hl, r_fresh hM.hl a2 (fun k _ => by rw [hS])⟩
    have hc1 : cX s R f1 39 L l (blk f1 39) N P := ⟨hX.tri, hc.oL, bN_blk, hc.bl.fr a3 (fun a k q1 q2 q => by unfold TN at q; omega), by omega, hc.2.2.2.2.2⟩
    have rk : ∀ a k, K ≤ a → a < K + 4 → f1 a k = f a k := fun a k h1 h2 => t1 a k (fun q => by unfold SX TL at q; omega)
    have hln1 : lnJ f1 K z N P t := fun i hi => by
      obtain ⟨l1, l2, l3, l4⟩ := hln i hi
      refine ⟨by rw [rk _ _ (by omega) (by omega), l1], by rw [t1 _ _ (fun q => by unfold SX TL at q; omega), l2], ?_, ?_⟩
      · rw [rk _ _ (by omega) (by omega), rk _ _ (by omega) (by omega)]; exact l3
      · rw [t1 _ _ (fun q => by unfold SX TL at q; omega), t1 _ _ (fun q => by unfold SX TL at q; omega)]; exact l4
    obtain ⟨f2, b1, b2⟩ := x_judged (d := d + 52) (g := g) hX h.lw hc1 hwf hz (by rw [rk _ _ (by omega) (by omega), z1]) hln1 hy
    have t2 : eqT SX f f2 := t1.trans b2
    have hM2 := hM.sx t2
    -- the reference
    have h0 := m_thr hM2
    obtain ⟨f3, c1, c2, c3, c4⟩ := m_save (d := d + 58) (g := g) (a := 34) h0 (Or.inl rfl)
    obtain ⟨f4, d1, d2, d3⟩ := m_fresh0 (d := d + 58) (g := g) c2.oM c2.ep c2.p5
    have t3 : eqT (SR 208) f2 f3 := (eqT_u SR_0).trans (c4.mono (fun i k q => by unfold SR; omega))
    have t4 : eqT (TM 208) f3 f4 := d3.mono (fun i k q => Or.inl q)
    have hM4 : cM s R f4 208 l (blk f1 39) N P E := c2.fr t4 TM_no (r_fresh c2.hl a2 d2)
    have r4 : ∀ i, 25 ≤ i → i < 33 → f4 (208 + i) = f (208 + i) := fun i h1 h2 => by
      rw [t4.row (fun k q => by unfold TM at q; omega), c4.row (fun k q => by omega), ur_ua (by omega), t2.row (fun k q => by unfold SX TL at q; omega)]
    obtain ⟨f5, e1, e2⟩ := m_judged (d := d + 52) (g := g) (t := t) (z := z) hM4 hz (by rw [r4 25 (by decide) (by decide)]; exact z2) (fun i hi => by
      obtain ⟨l1, l2, l3, l4⟩ := hln i hi
      rw [r4 26 (by decide) (by decide), r4 27 (by decide) (by decide), r4 28 (by decide) (by decide)]
      exact ⟨l2, l4⟩) (f0 := f2) (f9 := f3) (fun k hk => by rw [c3 k hk, ur_ua (by decide)]) t3 t4 hy
    refine ⟨bif decide (y ≠ 2) then (bif decide (y ≠ 0) then (jdV E l N P t (blk f1 39) z).2.2 else (jdV E l N P t (blk f1 39) z).2.1) else itr (fun p (a : Int32) => a + (jdV E l N P t (blk f1 39) z).1 5 p) P 0, f2, f5, ur_cl hX.rcv rfl (e_X9_judged_0 _ _ _ ?_), ur_cl hO.rcv rfl (e_X10_judged_0 _ _ _ ?_), QX_x t2 e2⟩
    · obtain ⟨k, hk, rfl⟩ := inR_of hy (by decide)
      rw [decide_eq_false (nI_pos (show k < 2 ^ 31 by omega)), cond_false, show decide (nI k ≤ (2 : Int32)) = true from decide_eq_true (nI_le (b := 2) (by omega) (by decide)), cond_true]
      simp only [hX.r6, hX.r1, Option.bind_some, a1]
      exact b1
    · simp only [hO.pI, Option.bind_some, show (2 : Int32) = nI 2 from rfl, wth y (show 2 + 1 < 2 ^ 31 by decide), hy, ub_n0, cond_true, hO.r44, hO.r45]
      have c1' : ur_call ur_G (d + 59) 172 [.ref (208 + 33), .int (0 : Int32), .ref (208 + 34), .int (0 : Int32)] (s, ur_u f2 208 0 0, g, R) = some (0, (s, f3, g, R)) := c1
      simp only [c1', Option.bind_some, d1]
      exact e1
end URJ8

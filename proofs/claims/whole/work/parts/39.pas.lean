/-! The reference's minutes -/
def opS (H : Nat → Int32) (N : Nat) (B : Int32) : Int32 := ((((1 : Int32) <<< (nI N &&& 31)) - 1) &&& (sB (fun r => !decide (H r ≤ 0)) N ^^^ (-1))) &&& (B ^^^ (-1))
def mm1 (S : Nat → Int32) (p : Nat) : Nat → Int32 := up (up S (14 + p) (S (14 + p) - 1)) (24 + p) (S (24 + p) + 1)
def mmE (H D : Nat → Int32) (N : Nat) (S : Nat → Int32) (p : Nat) : Int32 := bif bt (opS H N (S 2)) (ix (S (9 + p))) then S (9 + p) else fsB (D (ix (S (4 + p))) &&& opS H N (S 2)) 8 0
def mm2 (S : Nat → Int32) (p : Nat) (e : Int32) : Nat → Int32 := up (up (up (mm1 S p) (4 + p) e) (14 + p) (-1)) 1 (S 1 + 1)
def psM (H D : Nat → Int32) (N p : Nat) (x : Int32 × (Nat → Int32)) : Int32 × (Nat → Int32) :=
  bif decide (1 ≤ x.2 (14 + p)) then (bif decide (x.2 (14 + p) - 1 ≤ 0) then (bif decide (0 ≤ mmE H D N x.2 p) then (x.1 ||| ((1 : Int32) <<< (nI p &&& 31)), mm2 x.2 p (mmE H D N x.2 p)) else (x.1, mm1 x.2 p)) else (x.1, mm1 x.2 p)) else x
def pasM (H D : Nat → Int32) (N P : Nat) (S : Nat → Int32) : Int32 × (Nat → Int32) := ((itr (psM H D N) P (0, S)).1, up (itr (psM H D N) P (0, S)).2 0 ((itr (psM H D N) P (0, S)).2 0 + 1))
/-- persons inside stand somewhere, and came from somewhere -/
def okM (D : Nat → Int32) (S : Nat → Int32) (N P : Nat) : Prop := ∀ p, p < P → decide (1 ≤ S (14 + p)) = true → ∃ w q, w < 8 ∧ S (4 + p) = nI w ∧ q < N ∧ S (9 + p) = nI q
theorem psM_eq (H D : Nat → Int32) (N p : Nat) (x : Int32 × (Nat → Int32)) : psM H D N p x = bif decide (1 ≤ x.2 (14 + p)) then (bif decide (x.2 (14 + p) - 1 ≤ 0) then (bif decide (0 ≤ mmE H D N x.2 p) then (x.1 ||| ((1 : Int32) <<< (nI p &&& 31)), mm2 x.2 p (mmE H D N x.2 p)) else (x.1, mm1 x.2 p)) else (x.1, mm1 x.2 p)) else x := rfl
/-- which cells a person's minute touches -/
theorem psM_col {H D : Nat → Int32} {N p j : Nat} {x : Int32 × (Nat → Int32)} (h1 : j ≠ 1) (h4 : j ≠ 4 + p) (h14 : j ≠ 14 + p) (h24 : j ≠ 24 + p) : (psM H D N p x).2 j = x.2 j := by
  unfold psM
  cases decide (1 ≤ x.2 (14 + p)) with
  | false => rfl
  | true =>
    cases decide (x.2 (14 + p) - 1 ≤ 0) with
    | false => simp only [cond_true, cond_false, mm1, up_n h24, up_n h14]
    | true =>
      cases decide (0 ≤ mmE H D N x.2 p) with
      | false => simp only [cond_true, cond_false, mm1, up_n h24, up_n h14]
      | true => simp only [cond_true, mm2, mm1, up_n h24, up_n h14, up_n h4, up_n h1]
section URP1
variable {s : List (Nat ⊕ (Nat × Nat))} {f : Nat → Nat → Int32} {g : Nat → Nat → Int64} {R : Nat → Nat → Option Nat} {b d j p P N w q : Nat} {H D S : Nat → Int32} {r x y : Int32}
theorem t_passStep (hM : oModel s R b) (hH : f (b + 4) = H) (hD : f (b + 5) = D) (hN : f (b + 2) 0 = nI N) (hN8 : N ≤ 8) (hP : f (b + 2) 2 = nI P) (hP5 : P ≤ 5) (hS : f (b + 33) = S) (hp : p < P) (hok : decide (1 ≤ S (14 + p)) = true → ∃ w q, w < 8 ∧ S (4 + p) = nI w ∧ q < N ∧ S (9 + p) = nI q) : ∃ f', f' (b + 33) = (psM H D N p (x, S)).2 ∧ eqT (TS b) f f' ∧ ∀ r, ur_at ur_G (d + 4) 200 (4, [some (.ref b), some (.int (psM H D N p (x, S)).1), some (.int (nI (p + 1))), none], [], (s, f', g, R)) = some r → ur_at ur_G (d + 4) 200 (4, [some (.ref b), some (.int x), some (.int (nI p)), none], [], (s, f, g, R)) = some r := by
  have a2 : ur_aI (s, f, g, R) (b + 2) 0 2 = some (f (b + 2) 2) := hM.a2 (show 2 < 6 by decide)
  have n4 : (4 : Int32) + nI p = nI (4 + p) := nI_add 4 p
  have n9 : (9 : Int32) + nI p = nI (9 + p) := nI_add 9 p
  have n14 : (14 : Int32) + nI p = nI (14 + p) := nI_add 14 p
  have n24 : (24 : Int32) + nI p = nI (24 + p) := nI_add 24 p
  have hps := psM_eq H D N p (x, S)
  dsimp only at hps
  cases hm : decide (1 ≤ S (14 + p)) with
  | false =>
    rw [hm, cond_false] at hps
    refine ⟨f, by rw [hps]; exact hS, eqT.refl, fun r hr => ?_⟩
    rw [hps] at hr
    refine e_X10_passes_4 _ _ _ _ ?_
    simp only [hM.r10, a2, Option.bind_some, hP, d_le (show P < 2 ^ 31 by omega) (show p < 2 ^ 31 by omega), decide_eq_false (show ¬ P ≤ p by omega), cond_false, hM.r44, n14, hM.a33 (show 14 + p < 29 by omega), hS, hm, nI_1]
    exact hr
  | true =>
    obtain ⟨w, q, hw8, hw, hqN, hq⟩ := hok hm
    rw [hm, cond_true] at hps
    obtain ⟨f2, hf2⟩ : ∃ f2, f2 = ur_u (ur_u f (b + 33) (14 + p) (S (14 + p) - 1)) (b + 33) (24 + p) (S (24 + p) + 1) := ⟨_, rfl⟩
    have s2 : f2 (b + 33) = mm1 S p := by rw [hf2, ur_uS (ur_uS hS)]; rfl
    have t2 : eqT (TS b) f f2 := by rw [hf2]; exact (eqT_u (T := TS b) (show TS b (b + 33) _ from rfl)).u (show TS b (b + 33) _ from rfl)
    have o2 : ∀ i, i ≠ 33 → f2 (b + i) = f (b + i) := fun i hi => t2.row (fun k z => by unfold TS at z; omega)
    have pre : ∀ r, (bif decide (S (14 + p) - 1 ≤ 0) then ((ur_call ur_G (d + 4) 184 [.ref b, .int (nI q)] (s, f2, g, R)).bind fun q18 => (bif decide (q18.1 = 0) then ((ur_fR q18.2 b 10 13).bind fun a19 => ((ur_fR q18.2 b 10 44).bind fun a20 => ((ur_aI q18.2 a20 0 (nI (4 + p))).bind fun v21 => ((ur_aI q18.2 a19 0 v21).bind fun v22 => ((ur_call ur_G (d + 4) 183 [.ref b] q18.2).bind fun q23 => ((ur_call ur_G (d + 4) 199 [.int (v22 &&& q23.1)] q23.2).bind fun q24 => ur_at ur_G (d + 4) 200 (120, [some (.ref b), some (.int x), some (.int (nI p)), none], [.int q24.1], q24.2))))))) else ((ur_fR q18.2 b 10 44).bind fun a25 => ((ur_aI q18.2 a25 0 (nI (9 + p))).bind fun v26 => ur_at ur_G (d + 4) 200 (120, [some (.ref b), some (.int x), some (.int (nI p)), none], [.int v26], q18.2))))) else ur_at ur_G (d + 4) 200 (4, [some (.ref b), some (.int x), some (.int (nI (p + 1))), none], [], (s, f2, g, R))) = some r → ur_at ur_G (d + 4) 200 (4, [some (.ref b), some (.int x), some (.int (nI p)), none], [], (s, f, g, R)) = some r := by
      intro r hr
      refine e_X10_passes_4 _ _ _ _ ?_
      rw [hf2] at hr
      simp only [hM.r10, a2, Option.bind_some, hP, d_le (show P < 2 ^ 31 by omega) (show p < 2 ^ 31 by omega), decide_eq_false (show ¬ P ≤ p by omega), cond_false, hM.r44, n14, n24, n4, n9, hM.a33 (show 14 + p < 29 by omega), hM.a33 (show 24 + p < 29 by omega), hM.w33 (show 14 + p < 29 by omega), hM.w33 (show 24 + p < 29 by omega), hS, hm, cond_true, ur_us, ur_un (show 24 + p ≠ 14 + p by omega), ur_un (show 14 + p ≠ 24 + p by omega), ur_un (show 9 + p ≠ 24 + p by omega), ur_un (show 9 + p ≠ 14 + p by omega), hM.a33 (show 9 + p < 29 by omega), hq, nI_1]
      exact hr
    cases h0 : decide (S (14 + p) - 1 ≤ 0) with
    | false =>
      rw [h0, cond_false] at hps
      refine ⟨f2, by rw [hps]; exact s2, t2, fun r hr => pre r ?_⟩
      rw [hps] at hr
      rw [h0, cond_false]
      exact hr
    | true =>
      rw [h0, cond_true] at hps
      have eo : opM f2 b N = opS H N (S 2) := by
        show opS (f2 (b + 4)) N (f2 (b + 33) 2) = _
        rw [o2 4 (by decide), hH, s2]
        unfold mm1
        rw [up_n (by omega), up_n (by omega)]
      have hE : mmE H D N S p = bif bt (opS H N (S 2)) q then nI q else fsB (D w &&& opS H N (S 2)) 8 0 := by
        unfold mmE
        rw [hq, hw, ix_nI (by omega), ix_nI (by omega)]
      have mid : ∀ r, ur_at ur_G (d + 4) 200 (120, [some (.ref b), some (.int x), some (.int (nI p)), none], [.int (mmE H D N S p)], (s, f2, g, R)) = some r → ur_at ur_G (d + 4) 200 (4, [some (.ref b), some (.int x), some (.int (nI p)), none], [], (s, f, g, R)) = some r := by
        intro r hr
        refine pre r ?_
        have r9 : f2 (b + 33) (9 + p) = nI q := by rw [s2]; unfold mm1; rw [up_n (by omega), up_n (by omega), hq]
        have r4 : f2 (b + 33) (4 + p) = nI w := by rw [s2]; unfold mm1; rw [up_n (by omega), up_n (by omega), hw]
        simp only [h0, cond_true, t_isOpen_in hM (show f2 (b + 2) 0 = nI N by rw [o2 2 (by decide), hN]) hN8 hqN, Option.bind_some, eo, ub_0, hM.r13, hM.r44, hM.a33 (show 4 + p < 29 by omega), hM.a33 (show 9 + p < 29 by omega), r9, r4, hM.a5 (show w < 16 by omega), t_open hM (show f2 (b + 2) 0 = nI N by rw [o2 2 (by decide), hN]) hN8, t_firstOf, o2 5 (by decide), hD]
        rw [hE] at hr
        cases hc : bt (opS H N (S 2)) q with
        | true => rw [hc] at hr; exact hr
        | false => rw [hc] at hr; exact hr
      cases h3 : decide (0 ≤ mmE H D N S p) with
      | false =>
        rw [h3, cond_false] at hps
        refine ⟨f2, by rw [hps]; exact s2, t2, fun r hr => mid r ?_⟩
        rw [hps] at hr
        refine e_X10_passes_120 _ _ _ _ _ ?_
        rw [h3, cond_false, nI_1]
        exact hr
      | true =>
        rw [h3, cond_true] at hps
        have r1 : f2 (b + 33) 1 = S 1 := by rw [s2]; unfold mm1; rw [up_n (by omega), up_n (by omega)]
        refine ⟨ur_u (ur_u (ur_u f2 (b + 33) (4 + p) (mmE H D N S p)) (b + 33) (14 + p) (-1)) (b + 33) 1 (S 1 + 1), ?_, ((t2.u rfl).u rfl).u rfl, fun r hr => mid r ?_⟩
        · rw [hps, ur_uS (ur_uS (ur_uS s2))]
          rfl
        · rw [hps] at hr
          refine e_X10_passes_120 _ _ _ _ _ ?_
          have a1 : ∀ f', ur_aI (s, f', g, R) (b + 33) 0 1 = some (f' (b + 33) 1) := fun f' => hM.a33 (show 1 < 29 by decide)
          have w1 : ∀ f' v, ur_wI (s, f', g, R) (b + 33) 0 1 v = some (s, ur_u f' (b + 33) 1 v, g, R) := fun f' v => hM.w33 (show 1 < 29 by decide)
          simp only [h3, cond_true, hM.r44, Option.bind_some, n4, n14, hM.w33 (show 4 + p < 29 by omega), hM.w33 (show 14 + p < 29 by omega), a1, w1, ur_un (show 1 ≠ 14 + p by omega), ur_un (show 1 ≠ 4 + p by omega), r1, nI_1]
          exact hr
theorem t_passes (hM : oModel s R b) (hH : f (b + 4) = H) (hD : f (b + 5) = D) (hN : f (b + 2) 0 = nI N) (hN8 : N ≤ 8) (hP : f (b + 2) 2 = nI P) (hP5 : P ≤ 5) (hS : f (b + 33) = S) (hok : okM D S N P) : ∃ f', ur_call ur_G (d + 5) 200 [.ref b] (s, f, g, R) = some ((pasM H D N P S).1, (s, f', g, R)) ∧ f' (b + 33) = (pasM H D N P S).2 ∧ eqT (TS b) f f' := by
  have main := lp (n := P) (Fn := fun j (x : Int32 × (Nat → Nat → Int32)) => ur_at ur_G (d + 4) 200 (4, [some (.ref b), some (.int x.1), some (.int (nI j)), none], [], (s, x.2, g, R)))
    (I := fun j x => x.1 = (itr (psM H D N) j (0, S)).1 ∧ x.2 (b + 33) = (itr (psM H D N) j (0, S)).2 ∧ eqT (TS b) f x.2 ∧ ∀ k, j ≤ k → k < 5 → (itr (psM H D N) j (0, S)).2 (4 + k) = S (4 + k) ∧ (itr (psM H D N) j (0, S)).2 (9 + k) = S (9 + k) ∧ (itr (psM H D N) j (0, S)).2 (14 + k) = S (14 + k))
    (Q := fun r => r.1 = (pasM H D N P S).1 ∧ ∃ f', r.2 = (s, f', g, R) ∧ f' (b + 33) = (pasM H D N P S).2 ∧ eqT (TS b) f f') ?_ ?_ (0, f) ⟨rfl, hS, eqT.refl, fun _ _ _ => ⟨rfl, rfl, rfl⟩⟩
  · obtain ⟨⟨v, m⟩, h1, h2, f', h3, h4, h5⟩ := main
    refine ⟨f', ur_cl hM.rcv rfl (e_X10_passes_0 _ _ ?_), h4, h5⟩
    dsimp only at h2 h3
    rw [← h2, ← h3]
    exact h1
  · rintro j ⟨o, f1⟩ hj ⟨i1, i2, i3, i4⟩
    dsimp only at i1 i2 i3
    have o1 : ∀ i, i ≠ 33 → f1 (b + i) = f (b + i) := fun i hi => i3.row (fun k z => by unfold TS at z; omega)
    obtain ⟨j1, j2, j3⟩ := i4 j (Nat.le_refl j) (by omega)
    obtain ⟨f2, c1, c2, c3⟩ := t_passStep (d := d) (g := g) (f := f1) (x := o) hM (by rw [o1 4 (by decide), hH]) (by rw [o1 5 (by decide), hD]) (by rw [o1 2 (by decide), hN]) hN8 (by rw [o1 2 (by decide), hP]) hP5 i2 hj (fun h => by rw [j3] at h; rw [j1, j2]; exact hok j hj h)
    have hst : itr (psM H D N) (j + 1) (0, S) = psM H D N j (o, (itr (psM H D N) j (0, S)).2) := by
      show psM H D N j (itr (psM H D N) j (0, S)) = _
      rw [i1]
    refine ⟨((psM H D N j (o, (itr (psM H D N) j (0, S)).2)).1, f2), ⟨by rw [hst], by rw [hst]; exact c1, i3.trans c2, fun k h1 h2 => ?_⟩, c3⟩
    rw [hst, psM_col (by omega) (by omega) (by omega) (by omega), psM_col (by omega) (by omega) (by omega) (by omega), psM_col (by omega) (by omega) (by omega) (by omega)]
    exact i4 k (by omega) h2
  · rintro ⟨o, f1⟩ ⟨i1, i2, i3, i4⟩
    dsimp only at i1 i2 i3
    have o1 : ∀ i, i ≠ 33 → f1 (b + i) = f (b + i) := fun i hi => i3.row (fun k z => by unfold TS at z; omega)
    refine ⟨(o, (s, ur_u f1 (b + 33) 0 (f1 (b + 33) 0 + 1), g, R)), ?_, i1, _, rfl, ?_, i3.u rfl⟩
    · refine e_X10_passes_4 _ _ _ _ ?_
      have a2 : ur_aI (s, f1, g, R) (b + 2) 0 2 = some (f1 (b + 2) 2) := hM.a2 (show 2 < 6 by decide)
      have a0 : ur_aI (s, f1, g, R) (b + 33) 0 0 = some (f1 (b + 33) 0) := hM.a33 (show 0 < 29 by decide)
      have w0 : ∀ v, ur_wI (s, f1, g, R) (b + 33) 0 0 v = some (s, ur_u f1 (b + 33) 0 v, g, R) := fun v => hM.w33 (show 0 < 29 by decide)
      simp only [hM.r10, a2, Option.bind_some, o1 2 (by decide), hP, d_le (show P < 2 ^ 31 by omega) (show P < 2 ^ 31 by omega), Nat.le_refl, decide_true, cond_true, hM.r44, a0, w0]
    · rw [ur_uS i2, i2]
      rfl
end URP1

/-! evenings, on both sides -/
def drN (w : Nat) : Nat := (w * 1103515245 + 12345) % 2147483648
def dvN (w n : Nat) : Nat := drN w / 65536 % n
def kdN (c : Nat) : Nat := if c = 0 then 2 else if c ≤ 2 then 0 else 1
def fdW (N P w : Nat) : Nat := if P = 0 ∨ N = 0 then w else drN (drN (drN w))
def fdV (E : Int32 → Int32 → Int32 → Int32 → Int32) (l : Nat → Nat → Int32) (N P : Nat) (V : Nat → Nat → Int32) (w : Nat) : Nat → Nat → Int32 := if P = 0 ∨ N = 0 then V else (foV E l V N P (kdN (dvN (drN (drN w)) 5)) (dvN w P) (dvN (drN w) N)).2
def evS (E : Int32 → Int32 → Int32 → Int32 → Int32) (l : Nat → Nat → Int32) (N P : Nat) (x : (Nat → Nat → Int32) × Nat) : (Nat → Nat → Int32) × Nat := ((pasV l P (fdV E l N P x.1 x.2)).2, fdW N P x.2)
def evV (E : Int32 → Int32 → Int32 → Int32 → Int32) (l : Nat → Nat → Int32) (N P : Nat) (V : Nat → Nat → Int32) (w k : Nat) : (Nat → Nat → Int32) × Nat := itr (fun _ => evS E l N P) k (V, w)
def evA (P : Nat) (V V' : Nat → Nat → Int32) (y : Int32) : Int32 := bif decide (y = 0) then V' 0 7 - V 0 7 else bif decide (y = 1) then sB (fun p => !decide (V' 2 p = -1)) P else itr (fun p (a : Int32) => a + V' 5 p) P 0
theorem drN_lt (w : Nat) : drN w < 2 ^ 31 := Nat.mod_lt _ (by decide)
theorem dv_lt (w : Nat) {n : Nat} (h : 0 < n) : dvN w n < n := Nat.mod_lt _ h
theorem fdW_lt {N P w : Nat} (h : w < 2 ^ 31) : fdW N P w < 2 ^ 31 := by
  unfold fdW
  split
  · exact h
  · exact drN_lt _
theorem evV_lt {E : Int32 → Int32 → Int32 → Int32 → Int32} {l V : Nat → Nat → Int32} {N P w : Nat} (h : w < 2 ^ 31) : ∀ k, (evV E l N P V w k).2 < 2 ^ 31
  | 0 => h
  | k + 1 => fdW_lt (evV_lt h k)
theorem dr_eq {w : Nat} (hw : w < 2 ^ 31) : ((lN w * (1103515245 : Int64)) + (12345 : Int64)) - ((lN w * (1103515245 : Int64)) + (12345 : Int64)) / (2147483648 : Int64) * (2147483648 : Int64) = lN (drN w) := by
  rw [show (1103515245 : Int64) = lN 1103515245 from rfl, show (12345 : Int64) = lN 12345 from rfl, show (2147483648 : Int64) = lN 2147483648 from rfl, lN_mul, lN_add, pk_lRem (by omega) (by decide) (by decide)]
  rfl
theorem dv_eq {w n : Nat} (h0 : 0 < n) (hn : n < 2 ^ 31) : ((lN (drN w) / (65536 : Int64)) - (lN (drN w) / (65536 : Int64)) / (nI n).toInt64 * (nI n).toInt64).toInt32 = nI (dvN w n) := by
  have h1 := drN_lt w
  rw [nI_l hn, show (65536 : Int64) = lN 65536 from rfl, pk_lDiv (by omega) (by decide) (by decide), pk_lRem (by omega) h0 (by omega), lN_i]
  rfl
theorem dz_eq {n : Nat} (h0 : 0 < n) (hn : n < 2 ^ 31) : ((nI n).toInt64 == 0) = false := by
  rw [nI_l hn, beq_eq_false_iff_ne]
  intro e
  have := (lN_eq (a := n) (b := 0) hn (by decide)).mp e
  omega
theorem ur_uu {α : Type} {g : Nat → Nat → α} {a k : Nat} {v w : α} : ur_u (ur_u g a k v) a k w = ur_u g a k w := by
  funext b j
  unfold ur_u
  by_cases h : b = a
  · rw [if_pos h, if_pos h, if_pos rfl]
    by_cases h2 : j = k
    · rw [if_pos h2, if_pos h2]
    · rw [if_neg h2, if_neg h2, if_neg h2]
  · rw [if_neg h, if_neg h, if_neg h]
theorem ur_uid {α : Type} {g : Nat → Nat → α} {a k : Nat} {v : α} (h : g a k = v) : ur_u g a k v = g := by
  funext b j
  unfold ur_u
  by_cases h1 : b = a
  · rw [if_pos h1]
    by_cases h2 : j = k
    · rw [if_pos h2, h1, h2, h]
    · rw [if_neg h2, h1]
  · rw [if_neg h1]
theorem ur_usg {α : Type} {g : Nat → Nat → α} {a k : Nat} {v : α} : ur_u g a k v a k = v := by unfold ur_u; rw [if_pos rfl, if_pos rfl]
theorem ur_uag {α : Type} {g : Nat → Nat → α} {a k i : Nat} {v : α} (h : i ≠ a) : ur_u g a k v i = g i := by
  funext j
  unfold ur_u
  rw [if_neg h]
theorem d_nl (a b : Int32) : decide (a ≤ b) = !decide (b < a) := by
  by_cases q : a ≤ b
  · rw [decide_eq_true q, decide_eq_false (Int32.not_lt.mpr q)]; rfl
  · rw [decide_eq_false q, decide_eq_true (Int32.not_le.mp q)]; rfl
theorem kd_lt (c : Nat) : kdN c < 5 := by
  unfold kdN
  split
  · decide
  · split <;> decide
theorem kd_ln {N P c p j : Nat} (hp : p < P) (hj : j < N) : lnX N P (kdN c) (nI p) (nI j) p j := ⟨fun _ => ⟨hp, rfl⟩, fun _ => ⟨hj, rfl⟩, kd_lt c⟩
theorem kd_v : kdN 0 = 2 ∧ kdN 1 = 0 ∧ kdN 2 = 0 ∧ kdN 3 = 1 ∧ kdN 4 = 1 := by decide
section UREV
variable {s : List (Nat ⊕ (Nat × Nat))} {f f' f1 f2 l V V' : Nat → Nat → Int32} {g : Nat → Nat → Int64} {R : Nat → Nat → Option Nat} {L L' K K' d b j p P N w n k a i z : Nat} {x y c : Int32} {E : Int32 → Int32 → Int32 → Int32 → Int32}
theorem x_below (hD : oDraws s R 54) (hw : w < 2 ^ 31) (hg : g 54 0 = lN w) (h0 : 0 < n) (hn : n < 2 ^ 31) : ur_call ur_G (d + 1) 1 [.ref 54, .int (nI n)] (s, f, g, R) = some (nI (dvN w n), (s, f, ur_u g 54 0 (lN (drN w)), R)) := by
  refine ur_cl hD.rcv rfl (e_X0_below_0 _ _ _ ?_)
  simp only [hD.L, hD.pL, Option.bind_some, hg, dr_eq hw, ur_usg, decide_eq_false (nI_nle h0 hn), cond_false, dz_eq h0 hn, dv_eq h0 hn]
theorem m_draws (hM : oModel s R b) (hw : w < 2 ^ 31) (hg : g b 56 = lN w) (h0 : 0 < n) (hn : n < 2 ^ 31) : ur_call ur_G (d + 1) 246 [.ref b, .int (nI n)] (s, f, g, R) = some (nI (dvN w n), (s, f, ur_u g b 56 (lN (drN w)), R)) := by
  refine ur_cl hM.rcv rfl (e_X10_draws_0 _ _ _ ?_)
  simp only [hM.L, hM.pL, Option.bind_some, hg, dr_eq hw, ur_usg, cond_false, dz_eq h0 hn, dv_eq h0 hn]
theorem x_fd' {q : Nat} {G1 G2 G3 : Nat → Nat → Int64} (hX : oX s R L L' K K') (hE : lwX l E) (hc : cX s R f 39 L l V N P) (hw : wfV l V N P) (hP : 0 < P) (hN : 0 < N) (hp : p < P) (hj : j < N) (hq : q < 5) (b1 : ur_call ur_G (d + 6) 1 [.ref 54, .int (nI P)] (s, f, g, R) = some (nI p, (s, f, G1, R))) (b2 : ur_call ur_G (d + 6) 1 [.ref 54, .int (nI N)] (s, f, G1, R) = some (nI j, (s, f, G2, R))) (b3 : ur_call ur_G (d + 6) 1 [.ref 54, .int (5 : Int32)] (s, f, G2, R) = some (nI q, (s, f, G3, R))) : ∃ f', ur_call ur_G (d + 7) 133 [.ref 0] (s, f, g, R) = some (0, (s, f', G3, R)) ∧ cX s R f' 39 L l (foV E l V N P (kdN q) p j).2 N P ∧ wfV l (foV E l V N P (kdN q) p j).2 N P ∧ eqT SX f f' := by
  have h8 := hc.r8
  have h5 := hc.p5
  obtain ⟨f1, c1, c2, c3⟩ := c_follow (d := d) (g := G3) hc hE hw.ok hw.st (fun j _ => hw.fl j) (kd_ln (c := q) hp hj)
  refine ⟨f1, ur_cl hX.rcv rfl (e_X9_followDraws_0 _ _ ?_), hc.fr c3 c2 (TNL_L hc.dd), hw.fo (kd_ln (c := q) hp hj), c3.mono (TNL_SX hX.eL)⟩
  simp only [hX.r1, Option.bind_some, hc.oL.I, hc.ep, hc.er, decide_eq_false (nI_ne0 hP (show P < 2 ^ 31 by omega)), cond_false, decide_eq_true (show nI N ≠ 0 from nI_ne0 hN (show N < 2 ^ 31 by omega)), cond_true, hX.r13, b1, b2, b3, hX.r6]
  clear b1 b2 b3 c2 c3
  have hq' : q = 0 ∨ q = 1 ∨ q = 2 ∨ q = 3 ∨ q = 4 := by omega
  rcases hq' with rfl | rfl | rfl | rfl | rfl
  · rw [show nI (108 + kdN 0) = (110 : Int32) from by decide] at c1
    simp only [show decide (nI 0 ≠ (0 : Int32)) = false from by decide, cond_false, c1, Option.bind_some]
  · rw [show nI (108 + kdN 1) = (108 : Int32) from by decide] at c1
    simp only [show decide (nI 1 ≠ (0 : Int32)) = true from by decide, cond_true, show decide ((2 : Int32) < nI 1) = false from by decide, cond_false, c1, Option.bind_some]
  · rw [show nI (108 + kdN 2) = (108 : Int32) from by decide] at c1
    simp only [show decide (nI 2 ≠ (0 : Int32)) = true from by decide, cond_true, show decide ((2 : Int32) < nI 2) = false from by decide, cond_false, c1, Option.bind_some]
  · rw [show nI (108 + kdN 3) = (109 : Int32) from by decide] at c1
    simp only [show decide (nI 3 ≠ (0 : Int32)) = true from by decide, cond_true, show decide ((2 : Int32) < nI 3) = true from by decide, cond_true, c1, Option.bind_some]
  · rw [show nI (108 + kdN 4) = (109 : Int32) from by decide] at c1
    simp only [show decide (nI 4 ≠ (0 : Int32)) = true from by decide, cond_true, show decide ((2 : Int32) < nI 4) = true from by decide, cond_true, c1, Option.bind_some]
theorem x_fd (hX : oX s R L L' K K') (hE : lwX l E) (hc : cX s R f 39 L l V N P) (hw : wfV l V N P) (h31 : w < 2 ^ 31) (hg : g 54 0 = lN w) : ∃ f', ur_call ur_G (d + 7) 133 [.ref 0] (s, f, g, R) = some (0, (s, f', ur_u g 54 0 (lN (fdW N P w)), R)) ∧ cX s R f' 39 L l (fdV E l N P V w) N P ∧ wfV l (fdV E l N P V w) N P ∧ eqT SX f f' := by
  have h8 := hc.r8
  have h5 := hc.p5
  by_cases hz : P = 0 ∨ N = 0
  · have e1 : fdW N P w = w := if_pos hz
    have e2 : fdV E l N P V w = V := if_pos hz
    rw [e1, e2, ur_uid hg]
    refine ⟨f, ur_cl hX.rcv rfl (e_X9_followDraws_0 _ _ ?_), hc, hw, eqT.refl⟩
    simp only [hX.r1, Option.bind_some, hc.oL.I, hc.ep, hc.er]
    rcases hz with rfl | rfl
    · simp only [show decide (nI 0 = (0 : Int32)) = true from by decide, cond_true]
    · simp only [show decide (nI 0 ≠ (0 : Int32)) = false from by decide, cond_false]
      cases decide (nI P = 0) with
      | true => simp only [cond_true]
      | false => simp only [cond_false]
  · have hP : 0 < P := by omega
    have hN : 0 < N := by omega
    have b1 := x_below (d := d + 5) (f := f) (g := g) hX.drs h31 hg hP (show P < 2 ^ 31 by omega)
    have b2 := x_below (d := d + 5) (f := f) (g := ur_u g 54 0 (lN (drN w))) hX.drs (drN_lt w) ur_usg hN (show N < 2 ^ 31 by omega)
    have b3 := x_below (d := d + 5) (f := f) (g := ur_u g 54 0 (lN (drN (drN w)))) hX.drs (drN_lt _) ur_usg (show 0 < 5 by decide) (by decide)
    rw [ur_uu] at b2 b3
    have m := x_fd' (d := d) hX hE hc hw hP hN (dv_lt w hP) (dv_lt (drN w) hN) (dv_lt (drN (drN w)) (show 0 < 5 by decide)) b1 b2 b3
    unfold fdW fdV
    rw [if_neg hz, if_neg hz]
    exact m
theorem x_evl (hX : oX s R L L' K K') (hE : lwX l E) (hc : cX s R f 39 L l V N P) (hw : wfV l V N P) (hr : f 33 7 = V 0 7) (h31 : w < 2 ^ 31) (hk : k < 2 ^ 31) : ∃ f', ur_at ur_G (d + 8) 132 (58, [some (.ref 0), none, some (.int (nI k)), some (.int y), some (.int 0)], [], (s, f, ur_u g 54 0 (lN w), R)) = some (evA P V (evV E l N P V w k).1 y, (s, f', ur_u g 54 0 (lN (evV E l N P V w k).2), R)) ∧ eqT SX f f' := by
  have main := lp (n := k) (Fn := fun j (f' : Nat → Nat → Int32) => ur_at ur_G (d + 8) 132 (58, [some (.ref 0), none, some (.int (nI k)), some (.int y), some (.int (nI j))], [], (s, f', ur_u g 54 0 (lN (evV E l N P V w j).2), R)))
    (I := fun j f' => cX s R f' 39 L l (evV E l N P V w j).1 N P ∧ wfV l (evV E l N P V w j).1 N P ∧ eqT SX f f')
    (Q := fun r => r.1 = evA P V (evV E l N P V w k).1 y ∧ ∃ f', r.2 = (s, f', ur_u g 54 0 (lN (evV E l N P V w k).2), R) ∧ eqT SX f f') ?_ ?_ f ⟨hc, hw, eqT.refl⟩
  · obtain ⟨⟨v', m⟩, e1, e2, f', e3, e4⟩ := main
    dsimp only at e2 e3
    subst e2 e3
    exact ⟨f', e1, e4⟩
  · intro j f2 hj ⟨i1, i2, i3⟩
    obtain ⟨f3, d1, d2, d3, d4⟩ := x_fd (d := d + 1) (g := ur_u g 54 0 (lN (evV E l N P V w j).2)) hX hE i1 i2 (evV_lt h31 j) ur_usg
    obtain ⟨f4, g1, g2, g3, g4⟩ := x_pas (d := d + 4) (g := ur_u g 54 0 (lN (fdW N P (evV E l N P V w j).2))) hX d2 d3
    rw [ur_uu] at d1
    refine ⟨f4, ⟨g2, g3, (i3.trans d4).trans g4⟩, fun r hr => e_X9_evenings_58 _ _ _ _ _ ?_⟩
    simp only [d_le (show k < 2 ^ 31 by omega) (show j < 2 ^ 31 by omega), decide_eq_false (show ¬ k ≤ j by omega), cond_false, hX.r6, hX.r1, Option.bind_some, d1, g1, nI_1]
    exact hr
  · intro f2 ⟨i1, i2, i3⟩
    have e7 : f2 33 7 = V 0 7 := by rw [i3 33 7 (fun z => by unfold SX TL at z; omega), hr]
    refine ⟨(evA P V (evV E l N P V w k).1 y, (s, f2, ur_u g 54 0 (lN (evV E l N P V w k).2), R)), e_X9_evenings_58 _ _ _ _ _ ?_, rfl, f2, rfl, i3⟩
    simp only [d_le hk hk, Nat.le_refl, decide_true, cond_true, hX.r6, hX.r5, hX.r1, Option.bind_some, hX.tri.I, hX.now.I, e7, i1.f0, s_allInside i1.oN i1.oL i1.ep i1.p5, i1.bn 2 (by decide), s_allBeen i1.oN i1.oL i1.ep i1.p5, i1.bn 5 (by decide)]
    unfold evA
    cases decide (y = 0)
    · cases decide (y = 1) <;> rfl
    · rfl
theorem m_lives' {q : Nat} {G1 G2 g3 : Nat → Nat → Int64} (h : cM s R f b l V N P E) (hP : 0 < P) (hN : 0 < N) (hp : p < P) (hj : j < N) (hc5 : q < 5) (b1 : ur_call ur_G (d + 5) 246 [.ref b, .int (nI P)] (s, f, g, R) = some (nI p, (s, f, G1, R))) (b2 : ur_call ur_G (d + 5) 246 [.ref b, .int (nI N)] (s, f, G1, R) = some (nI j, (s, f, G2, R))) (b3' : ur_call ur_G (d + 5) 246 [.ref b, .int (5 : Int32)] (s, f, G2, R) = some (nI q, (s, f, g3, R))) : ∃ f', ur_call ur_G (d + 6) 247 [.ref b] (s, f, g, R) = some (0, (s, f', g3, R)) ∧ cM s R f' b l (pasV l P (foV E l V N P (kdN q) p j).2).2 N P E ∧ eqT (TM b) f f' := by
  have hM := h.oM
  have h8 := h.r8
  have h5 := h.p5
  have a2 : ∀ f' g', ur_aI (s, f', g', R) (b + 2) 0 2 = some (f' (b + 2) 2) := fun f' g' => hM.a2 (show 2 < 6 by decide)
  have a0 : ∀ f' g', ur_aI (s, f', g', R) (b + 2) 0 0 = some (f' (b + 2) 0) := fun f' g' => hM.a2 (show 0 < 6 by decide)
  obtain ⟨o, hoN, ho8, hV, hf4⟩ := h.wh hp
  have hix : ix (V 1 p) = o := by rw [hV, ix_nI (by omega)]
  -- the ends
  have fin : ∀ (f1 V1 : Nat → Nat → Int32), cM s R f1 b l V1 N P E → eqT (TM b) f f1 → ∃ f2, ur_call ur_G (d + 5) 200 [.ref b] (s, f1, g3, R) = some ((pasV l P V1).1, (s, f2, g3, R)) ∧ cM s R f2 b l (pasV l P V1).2 N P E ∧ eqT (TM b) f f2 := fun f1 V1 h1 t1 => by
    obtain ⟨f2, c1, c2, c3⟩ := m_passes (d := d) (g := g3) h1
    exact ⟨f2, c1, c2, t1.trans c3⟩
  have low : ∀ (q : Nat) (f1 f2 : Nat → Nat → Int32) (v : Int32), q ≤ 2 → ur_call ur_G (d + 5) 200 [.ref b] (s, f1, g3, R) = some (v, (s, f2, g3, R)) → ur_at ur_G (d + 5) 247 (95, [some (.ref b), some (.int (nI p)), some (.int (nI j)), some (.int (nI q))], [], (s, f1, g3, R)) = some (0, (s, f2, g3, R)) := fun q f1 f2 v hq c => by
    refine e_X10_livesMinute_95 _ _ _ _ _ ?_
    rw [show decide (nI q ≤ (2 : Int32)) = true from decide_eq_true (nI_le (b := 2) hq (by decide)), cond_true, c, Option.bind_some]
  have wlk : ∀ (q : Nat), q ≤ 2 → ∃ f2, ur_at ur_G (d + 5) 247 (73, [some (.ref b), some (.int (nI p)), some (.int (nI j)), some (.int (nI q))], [], (s, f, g3, R)) = some (0, (s, f2, g3, R)) ∧ cM s R f2 b l (pasV l P (bif wkV l V p j o then twV V p j else V)).2 N P E ∧ eqT (TM b) f f2 := fun q hq => by
    obtain ⟨v, c1, c2, -⟩ := m_goesBit (d := d + 2) (g := g3) h hp hV hoN
    cases hc : wkV l V p j o with
    | false =>
      obtain ⟨f2, d1, d2, d3⟩ := fin f V h eqT.refl
      refine ⟨f2, e_X10_livesMinute_73 _ _ _ _ _ ?_, d2, d3⟩
      rw [c1, Option.bind_some, b_bit (by omega), c2 j hj, hc, ub_n1, Bool.not_false, cond_true]
      exact low q _ _ _ hq d1
    | true =>
      have t : eqT (TM b) f (ur_u f (b + 33) (4 + p) (nI j)) := eqT_u (Or.inl rfl)
      have hm : cM s R (ur_u f (b + 33) (4 + p) (nI j)) b l (twV V p j) N P E := h.fr t TM_no (by rw [ur_uS rfl]; exact r_tw h.hl h.hn hp hj hc)
      obtain ⟨f2, d1, d2, d3⟩ := fin _ _ hm t
      refine ⟨f2, e_X10_livesMinute_73 _ _ _ _ _ ?_, d2, d3⟩
      rw [c1, Option.bind_some, b_bit (by omega), c2 j hj, hc, ub_n1]
      simp only [Bool.not_true, cond_false, hM.r44, Option.bind_some, show (4 : Int32) + nI p = nI (4 + p) from nI_add 4 p, hM.w33 (show 4 + p < 29 by omega)]
      exact low q _ _ _ hq d1
  have shw : ∀ (q : Nat), 2 < q → q < 5 → ∃ f2, ur_at ur_G (d + 5) 247 (95, [some (.ref b), some (.int (nI p)), some (.int (nI j)), some (.int (nI q))], [], (s, f, g3, R)) = some (0, (s, f2, g3, R)) ∧ cM s R f2 b l (pasV l P (bif shV l V P p j o then tsV V p j (syV E l V p j (V 0 7)) else V)).2 N P E ∧ eqT (TM b) f f2 := fun q hq hq5 => by
    have c1 := m_canShow (d := d + 2) (g := g3) h hp hj hV hoN
    have hq2 : decide (nI q ≤ (2 : Int32)) = false := decide_eq_false (nI_ge (a := 2) hq (by omega))
    cases hc : shV l V P p j o with
    | false =>
      rw [hc] at c1
      obtain ⟨f2, d1, d2, d3⟩ := fin f V h eqT.refl
      refine ⟨f2, e_X10_livesMinute_95 _ _ _ _ _ ?_, d2, d3⟩
      rw [hq2, cond_false, c1, Option.bind_some, ub_0]
      simp only [Bool.not_false, cond_true, d1, Option.bind_some]
    | true =>
      rw [hc] at c1
      obtain ⟨f1, s1, s2, s3⟩ := m_shows (d := d) (g := g3) h hp hj hV ho8 hc
      obtain ⟨f2, d1, d2, d3⟩ := fin f1 _ s2 s3
      refine ⟨f2, e_X10_livesMinute_95 _ _ _ _ _ ?_, d2, d3⟩
      rw [hq2, cond_false, c1, Option.bind_some, ub_0]
      simp only [Bool.not_true, cond_false, s1, d1, Option.bind_some]
  have head : ∀ r, (bif decide (nI q ≠ 0) then (bif decide (nI q = (1 : Int32)) then ur_at ur_G (d + 5) 247 (73, [some (.ref b), some (.int (nI p)), some (.int (nI j)), some (.int (nI q))], [], (s, f, g3, R)) else (bif decide (nI q ≠ (2 : Int32)) then ur_at ur_G (d + 5) 247 (95, [some (.ref b), some (.int (nI p)), some (.int (nI j)), some (.int (nI q))], [], (s, f, g3, R)) else ur_at ur_G (d + 5) 247 (73, [some (.ref b), some (.int (nI p)), some (.int (nI j)), some (.int (nI q))], [], (s, f, g3, R)))) else ((ur_call ur_G (d + 5) 194 [.ref b, .int (nI p)] (s, f, g3, R)).bind fun q14 => (bif decide (q14.1 = 0) then (bif decide (nI q = (1 : Int32)) then ur_at ur_G (d + 5) 247 (73, [some (.ref b), some (.int (nI p)), some (.int (nI j)), some (.int (nI q))], [], q14.2) else (bif decide (nI q ≠ (2 : Int32)) then ur_at ur_G (d + 5) 247 (95, [some (.ref b), some (.int (nI p)), some (.int (nI j)), some (.int (nI q))], [], q14.2) else ur_at ur_G (d + 5) 247 (73, [some (.ref b), some (.int (nI p)), some (.int (nI j)), some (.int (nI q))], [], q14.2))) else ((ur_call ur_G (d + 5) 195 [.ref b, .int (nI p)] q14.2).bind fun q15 => (bif decide (nI q = (1 : Int32)) then ur_at ur_G (d + 5) 247 (73, [some (.ref b), some (.int (nI p)), some (.int (nI j)), some (.int (nI q))], [], q15.2) else (bif decide (nI q ≠ (2 : Int32)) then ur_at ur_G (d + 5) 247 (95, [some (.ref b), some (.int (nI p)), some (.int (nI j)), some (.int (nI q))], [], q15.2) else ur_at ur_G (d + 5) 247 (73, [some (.ref b), some (.int (nI p)), some (.int (nI j)), some (.int (nI q))], [], q15.2))))))) = some r → ur_call ur_G (d + 6) 247 [.ref b] (s, f, g, R) = some r := by
    intro r hr
    refine ur_cl hM.rcv rfl (e_X10_livesMinute_0 _ _ ?_)
    simp only [hM.r10, Option.bind_some, a2, a0, h.ep, h.er, decide_eq_false (nI_nle hP (show P < 2 ^ 31 by omega)), decide_eq_false (nI_nle hN (show N < 2 ^ 31 by omega)), cond_false, b1, b2, b3']
    exact hr
  clear b1 b2 b3'
  have hq' : q = 0 ∨ q = 1 ∨ q = 2 ∨ q = 3 ∨ q = 4 := by omega
  rcases hq' with rfl | rfl | rfl | rfl | rfl
  · have c1 := m_canSpeak (d := d + 3) (g := g3) h hp
    show ∃ f', ur_call ur_G (d + 6) 247 [.ref b] (s, f, g, R) = some (0, (s, f', g3, R)) ∧ cM s R f' b l (pasV l P (bif skV l V p then tpV V p else V)).2 N P E ∧ eqT (TM b) f f'
    cases hc : skV l V p with
    | false =>
      rw [hc] at c1
      obtain ⟨f2, d1, d2, d3⟩ := fin f V h eqT.refl
      refine ⟨f2, head _ ?_, d2, d3⟩
      rw [show decide (nI 0 ≠ (0 : Int32)) = false from by decide, cond_false, c1, Option.bind_some, ub_0, Bool.not_false, cond_true, show decide (nI 0 = (1 : Int32)) = false from by decide, cond_false, show decide (nI 0 ≠ (2 : Int32)) = true from by decide, cond_true]
      exact low 0 _ _ _ (by decide) d1
    | true =>
      rw [hc] at c1
      obtain ⟨f1, s1, s2, s3⟩ := m_speaks (d := d + 4) (g := g3) h hp
      obtain ⟨f2, d1, d2, d3⟩ := fin f1 _ s2 s3
      refine ⟨f2, head _ ?_, d2, d3⟩
      rw [show decide (nI 0 ≠ (0 : Int32)) = false from by decide, cond_false, c1, Option.bind_some, ub_0]
      simp only [Bool.not_true, cond_false, s1, Option.bind_some, show decide (nI 0 = (1 : Int32)) = false from by decide, show decide (nI 0 ≠ (2 : Int32)) = true from by decide, cond_true]
      exact low 0 _ _ _ (by decide) d1
  · obtain ⟨f2, d1, d2, d3⟩ := wlk 1 (by decide)
    rw [← hix] at d2
    refine ⟨f2, head _ ?_, d2, d3⟩
    rw [show decide (nI 1 ≠ (0 : Int32)) = true from by decide, cond_true, show decide (nI 1 = (1 : Int32)) = true from by decide, cond_true]
    exact d1
  · obtain ⟨f2, d1, d2, d3⟩ := wlk 2 (by decide)
    rw [← hix] at d2
    refine ⟨f2, head _ ?_, d2, d3⟩
    rw [show decide (nI 2 ≠ (0 : Int32)) = true from by decide, cond_true, show decide (nI 2 = (1 : Int32)) = false from by decide, cond_false, show decide (nI 2 ≠ (2 : Int32)) = false from by decide, cond_false]
    exact d1
  · obtain ⟨f2, d1, d2, d3⟩ := shw 3 (by decide) (by decide)
    rw [← hix] at d2
    refine ⟨f2, head _ ?_, d2, d3⟩
    rw [show decide (nI 3 ≠ (0 : Int32)) = true from by decide, cond_true, show decide (nI 3 = (1 : Int32)) = false from by decide, cond_false, show decide (nI 3 ≠ (2 : Int32)) = true from by decide, cond_true]
    exact d1
  · obtain ⟨f2, d1, d2, d3⟩ := shw 4 (by decide) (by decide)
    rw [← hix] at d2
    refine ⟨f2, head _ ?_, d2, d3⟩
    rw [show decide (nI 4 ≠ (0 : Int32)) = true from by decide, cond_true, show decide (nI 4 = (1 : Int32)) = false from by decide, cond_false, show decide (nI 4 ≠ (2 : Int32)) = true from by decide, cond_true]
    exact d1
theorem m_lives (h : cM s R f b l V N P E) (h31 : w < 2 ^ 31) (hg : g b 56 = lN w) : ∃ f', ur_call ur_G (d + 6) 247 [.ref b] (s, f, g, R) = some (0, (s, f', ur_u g b 56 (lN (fdW N P w)), R)) ∧ cM s R f' b l (pasV l P (fdV E l N P V w)).2 N P E ∧ eqT (TM b) f f' := by
  have hM := h.oM
  have h8 := h.r8
  have h5 := h.p5
  have a2 : ∀ f' g', ur_aI (s, f', g', R) (b + 2) 0 2 = some (f' (b + 2) 2) := fun f' g' => hM.a2 (show 2 < 6 by decide)
  have a0 : ∀ f' g', ur_aI (s, f', g', R) (b + 2) 0 0 = some (f' (b + 2) 0) := fun f' g' => hM.a2 (show 0 < 6 by decide)
  by_cases hz : P = 0 ∨ N = 0
  · have e1 : fdW N P w = w := if_pos hz
    have e2 : fdV E l N P V w = V := if_pos hz
    rw [e1, e2, ur_uid hg]
    obtain ⟨f1, c1, c2, c3⟩ := m_passes (d := d) (g := g) h
    refine ⟨f1, ur_cl hM.rcv rfl (e_X10_livesMinute_0 _ _ ?_), c2, c3⟩
    simp only [hM.r10, Option.bind_some, a2, a0, h.ep, h.er, c1]
    rcases hz with rfl | rfl
    · simp only [show decide (nI 0 ≤ (0 : Int32)) = true from by decide, cond_true]
    · simp only [show decide (nI 0 ≤ (0 : Int32)) = true from by decide, cond_true]
      cases decide (nI P ≤ 0) with
      | true => simp only [cond_true]
      | false => simp only [cond_false]
  · have hP : 0 < P := by omega
    have hN : 0 < N := by omega
    have b1 := m_draws (d := d + 4) (f := f) (g := g) hM h31 hg hP (show P < 2 ^ 31 by omega)
    have b2 := m_draws (d := d + 4) (f := f) (g := ur_u g b 56 (lN (drN w))) hM (drN_lt w) ur_usg hN (show N < 2 ^ 31 by omega)
    have b3 := m_draws (d := d + 4) (f := f) (g := ur_u g b 56 (lN (drN (drN w)))) hM (drN_lt _) ur_usg (show 0 < 5 by decide) (by decide)
    rw [ur_uu] at b2 b3
    have m := m_lives' (d := d) h hP hN (dv_lt w hP) (dv_lt (drN w) hN) (dv_lt (drN (drN w)) (show 0 < 5 by decide)) b1 b2 b3
    unfold fdW fdV
    rw [if_neg hz, if_neg hz]
    exact m
theorem m_evl (h : cM s R f b l V N P E) (h31 : w < 2 ^ 31) (hk : k < 2 ^ 31) {f0 f9 : Nat → Nat → Int32} (hs : ∀ k, k < 29 → f9 (b + 34) k = f0 (b + 33) k) (t1 : eqT (SR b) f0 f9) (t2 : eqT (TM b) f9 f) (e7 : f9 (b + 34) 1 = V 0 7) (hy : inR y 3 = true) : ∃ f', ur_at ur_G (d + 7) 248 (59, [some (.ref b), none, some (.int (nI k)), some (.int y), some (.int 0), none, none], [], (s, f, ur_u g b 56 (lN w), R)) = some (evA P V (evV E l N P V w k).1 y, (s, f', ur_u g b 56 (lN (evV E l N P V w k).2), R)) ∧ eqT (SR b) f0 f' := by
  have hM := h.oM
  have main := lp (n := k) (Fn := fun j (f' : Nat → Nat → Int32) => ur_at ur_G (d + 7) 248 (59, [some (.ref b), none, some (.int (nI k)), some (.int y), some (.int (nI j)), none, none], [], (s, f', ur_u g b 56 (lN (evV E l N P V w j).2), R)))
    (I := fun j f' => cM s R f' b l (evV E l N P V w j).1 N P E ∧ eqT (TM b) f f')
    (Q := fun r => r.1 = evA P V (evV E l N P V w k).1 y ∧ ∃ f', r.2 = (s, f', ur_u g b 56 (lN (evV E l N P V w k).2), R) ∧ eqT (SR b) f0 f') ?_ ?_ f ⟨h, eqT.refl⟩
  · obtain ⟨⟨v', m⟩, e1, e2, f', e3, e4⟩ := main
    dsimp only at e2 e3
    subst e2 e3
    exact ⟨f', e1, e4⟩
  · intro j f2 hj ⟨i1, i2⟩
    obtain ⟨f3, d1, d2, d3⟩ := m_lives (d := d + 1) (g := ur_u g b 56 (lN (evV E l N P V w j).2)) i1 (evV_lt h31 j) ur_usg
    rw [ur_uu] at d1
    refine ⟨f3, ⟨d2, i2.trans d3⟩, fun r hr => e_X10_evenings_59 _ _ _ _ _ ?_⟩
    simp only [d_le (show k < 2 ^ 31 by omega) (show j < 2 ^ 31 by omega), decide_eq_false (show ¬ k ≤ j by omega), cond_false, Option.bind_some, d1, nI_1]
    exact hr
  · intro f2 ⟨i1, i2⟩
    have a1 : ∀ f' g', ur_aI (s, f', g', R) (b + 33) 0 1 = some (f' (b + 33) 1) := fun f' g' => hM.a33 (show 1 < 29 by decide)
    have a4 : ∀ f' g', ur_aI (s, f', g', R) (b + 34) 0 1 = some (f' (b + 34) 1) := fun f' g' => hM.a34 (show 1 < 29 by decide)
    obtain ⟨f3, d1, d2⟩ := m_rest (d := d + 6) (g := ur_u g b 56 (lN (evV E l N P V w k).2)) (a := 34) hM (Or.inl rfl) (f0 := f0) (f1 := f9) hs t1 (t2.trans i2)
    have e34 : f2 (b + 34) 1 = V 0 7 := by rw [(t2.trans i2).row (fun k z => by unfold TM at z; omega), e7]
    have hh := t_insiders (d := d + 5) (f := f2) (g := ur_u g b 56 (lN (evV E l N P V w k).2)) hM i1.ep i1.p5
    rw [show sB (fun p => !decide (f2 (b + 33) (14 + p) < 0)) P = sB (fun p => !decide ((evV E l N P V w k).1 2 p = -1)) P from r_ins i1.hn] at hh
    refine ⟨(evA P V (evV E l N P V w k).1 y, (s, f3, ur_u g b 56 (lN (evV E l N P V w k).2), R)), e_X10_evenings_59 _ _ _ _ _ ?_, rfl, f3, rfl, d2⟩
    simp only [d_le hk hk, Nat.le_refl, decide_true, cond_true, hM.r44, hM.r45, Option.bind_some, a1, a4, e34, i1.hn.1.2.1, hh, t_allBeen hM, r_been i1.hl i1.hn, d1]
    unfold evA
    obtain ⟨q, hq, rfl⟩ := inR_of hy (by decide)
    match q, hq with
    | 0, _ => simp only [show decide (nI 0 = (0 : Int32)) = true from by decide, show decide (nI 0 ≠ (0 : Int32)) = false from by decide, cond_true, cond_false]
    | 1, _ => simp only [show decide (nI 1 = (0 : Int32)) = false from by decide, show decide (nI 1 ≠ (0 : Int32)) = true from by decide, show decide (nI 1 = (1 : Int32)) = true from by decide, show decide (nI 1 ≠ (1 : Int32)) = false from by decide, cond_true, cond_false]
    | 2, _ => simp only [show decide (nI 2 = (0 : Int32)) = false from by decide, show decide (nI 2 ≠ (0 : Int32)) = true from by decide, show decide (nI 2 = (1 : Int32)) = false from by decide, show decide (nI 2 ≠ (1 : Int32)) = true from by decide, cond_true, cond_false]
theorem j_evenings (h : JV s R f g L L' K K' l V N P E) : JC s R f g (d + 60) 132 248 [.int x, .int y, .int c] := by
  have hX := h.oX
  have hc := h.cX
  have hM := h.cM
  have hO := hM.oM
  have fls : INV s R (ur_u f 208 0 0) g := (h.q (QX_x eqT.refl (eqT_u SR_0))).inv
  have bad : ((!decide (x < 0) && !decide (9999 < x)) && ((!decide (y < 1) && !decide (99 < y)) && (!decide (c < 0) && !decide (2 < c)))) = false → JC s R f g (d + 60) 132 248 [.int x, .int y, .int c] := fun hb => by
    refine ⟨-1, f, g, R, ur_u f 208 0 0, g, R, ur_cl hX.rcv rfl (e_X9_evenings_0 _ _ _ _ _ ?_), ur_cl hO.rcv rfl (e_X10_evenings_0 _ _ _ _ _ ?_), fls⟩
    · rw [d_nl y, d_nl c]
      revert hb
      cases decide (x < 0) <;> cases decide (9999 < x) <;> cases decide (y < 1) <;> cases decide (99 < y) <;> cases decide (c < 0) <;> cases decide (2 < c) <;> intro hb <;> first | (exact absurd hb (by decide)) | rfl
    · simp only [hO.pI, Option.bind_some, t_within, ub_0, ub_n0]
      revert hb
      cases decide (x < 0) <;> cases decide (9999 < x) <;> cases decide (y < 1) <;> cases decide (99 < y) <;> cases decide (c < 0) <;> cases decide (2 < c) <;> intro hb <;> first | (exact absurd hb (by decide)) | rfl
  cases hb : ((!decide (x < 0) && !decide (9999 < x)) && ((!decide (y < 1) && !decide (99 < y)) && (!decide (c < 0) && !decide (2 < c)))) with
  | false => exact bad hb
  | true =>
    simp only [Bool.and_eq_true, Bool.not_eq_true', decide_eq_false_iff_not] at hb
    obtain ⟨⟨x1, x2⟩, ⟨y1, y2⟩, c1, c2⟩ := hb
    obtain ⟨w, hw, rfl⟩ := nI_of2 (n := 9999) (M := 9999) (by decide) x1 (Int32.not_lt.mp x2)
    have y0 : ¬ y < 0 := fun q => y1 (Int32.lt_trans q (by decide))
    obtain ⟨k, hk, rfl⟩ := nI_of2 (n := 99) (M := 99) (by decide) y0 (Int32.not_lt.mp y2)
    have hcc : inR c 3 = true := by rw [← inR_w (show 2 + 1 < 2 ^ 31 by decide), decide_eq_false c1, decide_eq_false (show ¬ nI 2 < c from c2)]; rfl
    obtain ⟨V', f1, hv, a1, a2, a3, a4⟩ := x_trial (d := d + 58) (g := g) h.xC
    have e33 : f1 33 7 = V' 0 7 := by rw [a4 33 7 (fun z => by unfold SX TL at z; omega), hc.f0, hv.2 7 (by decide) (by decide)]
    obtain ⟨f2, b1, b2⟩ := x_evl (d := d + 51) (g := g) (w := w) (k := k) (y := c) hX h.lw a2 a3 e33 (by omega) (by omega)
    have t2 : eqT SX f f2 := a4.trans b2
    have hM2 := (hM.sx t2).eqv hv
    have h0 := m_thr hM2
    obtain ⟨g2, hg2⟩ : ∃ g2, g2 = ur_u g 54 0 (lN (evV E l N P V' w k).2) := ⟨_, rfl⟩
    rw [← hg2] at b1
    obtain ⟨f3, c1', c2', c3', c4'⟩ := m_save (d := d + 58) (g := ur_u g2 208 56 (lN w)) (a := 34) h0 (Or.inl rfl)
    have t3 : eqT (SR 208) f2 f3 := (eqT_u SR_0).trans (c4'.mono (fun i k q => by unfold SR; omega))
    obtain ⟨f4, e1, e2⟩ := m_evl (d := d + 52) (g := g2) (w := w) (k := k) (y := c) c2' (by omega) (by omega) (f0 := f2) (f9 := f3) (fun k hk => by rw [c3' k hk, ur_ua (by decide)]) t3 eqT.refl (by rw [c3' 1 (by decide)]; exact h0.hn.1.2.1) hcc
    refine ⟨evA P V' (evV E l N P V' w k).1 c, f2, g2, R, f4, ur_u g2 208 56 (lN (evV E l N P V' w k).2), R, ur_cl hX.rcv rfl (e_X9_evenings_0 _ _ _ _ _ ?_), ur_cl hO.rcv rfl (e_X10_evenings_0 _ _ _ _ _ ?_), ?_⟩
    · rw [decide_eq_false x1, decide_eq_false x2, decide_eq_false y1, d_nl, decide_eq_false y2, decide_eq_false c1, d_nl c, decide_eq_false c2]
      simp only [cond_false, Bool.not_false, cond_true, hX.r6, hX.r5, Option.bind_some, a1, hX.r13, hX.drs.pL, nI_l (show w < 2 ^ 31 by omega)]
      exact b1
    · simp only [hO.pI, Option.bind_some, t_within, decide_eq_false x1, decide_eq_false x2, decide_eq_false y1, decide_eq_false y2, decide_eq_false c1, decide_eq_false c2, Bool.not_false, Bool.and_self, ub_0, ub_n0, Bool.not_true, cond_false, cond_true, hO.pL, nI_l (show w < 2 ^ 31 by omega), hO.r44, hO.r45]
      have c1'' : ur_call ur_G (d + 59) 172 [.ref (208 + 33), .int (0 : Int32), .ref (208 + 34), .int (0 : Int32)] (s, ur_u f2 208 0 0, ur_u g2 208 56 (lN w), R) = some (0, (s, f3, ur_u g2 208 56 (lN w), R)) := c1'
      simp only [c1'', Option.bind_some]
      exact e1
    · have hq := h.q (QX_x t2 e2)
      obtain ⟨⟨q1, q2, q3, q4⟩, ⟨q5, q6⟩, q7⟩ := hq
      have hL := q1.eL
      have eg : ∀ a, a ≠ 54 → a ≠ 208 → ur_u g2 208 56 (lN (evV E l N P V' w k).2) a = g a := fun a z1 z2 => by rw [ur_uag z2, hg2, ur_uag z1]
      refine JV.inv (L := L) (L' := L') (K := K) (K' := K') (l := l) (V := V) (N := N) (P := P) (E := E) ⟨⟨q1, q2, q3, q4⟩, ⟨fun r hr => ?_, fun p hp => ?_⟩, q7⟩
      · rw [eg _ (by omega) (by omega), eg _ (by decide) (by decide)]; exact q5 r hr
      · rw [eg _ (by omega) (by omega), eg _ (by decide) (by decide)]; exact q6 p hp
end UREV

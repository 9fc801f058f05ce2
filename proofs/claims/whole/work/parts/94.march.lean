/-! MARCHES -/
section URMA
variable {s : List (Nat ⊕ (Nat × Nat))} {f l V : Nat → Nat → Int32} {g : Nat → Nat → Int64} {R : Nat → Nat → Option Nat} {L L' K K' N P d : Nat} {E : Int32 → Int32 → Int32 → Int32 → Int32} {q : Nat × (Nat → Nat)}
theorem j_march_yes {x : uPL × uTl} (h : JV s R f g L L' K K' l V N P E) (hS : s.length ≤ 1000) (q1 : tpC f 1 2 1 q) (q2 : tpC f 208 209 1 q) (hch : ∀ k, k < q.1 → q.2 k < 128) (e : pAll q (q.1 + 1) 0 z0 none = .inr x) : JC s R f g (d + 60) 83 177 [] := by
  have hX := h.oX
  have hL := hX.eL
  have hK := hX.eK
  obtain ⟨hz, ht⟩ := (pAll_F hch q1.2.1 (q.1 + 1) 0 z0 none (by omega) (Nat.zero_le _) zW_0 trivial).2 x e
  obtain ⟨v, f1, g1, a1, a2, a3, a4⟩ := x_read (d := d + 8) hX.tape hS hX.draft hX.draft.oLaw8 (by omega) (show tpX f q from ⟨q1, hch⟩)
  rw [e] at a2
  obtain ⟨ev, xl, xw⟩ : v = 0 ∧ xLn f1 g1 L' x.1 x.2.isSome ∧ lawX f1 (L' + 8) (tlR x.2) := a2
  subst ev
  obtain ⟨f2, hf2⟩ : ∃ f2, f2 = ur_u f1 1 1 0 := ⟨_, rfl⟩
  have t2 : eqT (fun a k => a = 1 ∧ k = 1) f1 f2 := by rw [hf2]; exact eqT_u ⟨rfl, rfl⟩
  have x2 : xLn f2 g1 L' x.1 x.2.isSome := xl.fr t2 (eqL.refl (T := fun _ _ => False)) (fun a k h1 h2 y => by omega) (fun a k _ _ y => y)
  have w2 : lawX f2 (L' + 8) (tlR x.2) := xw.fr t2 (by omega) (fun k y => by omega)
  obtain ⟨R2, hR2⟩ : ∃ R2, R2 = ur_u (ur_u R 0 1 (some L')) 0 2 (some L) := ⟨_, rfl⟩
  have hX2 : oX s R2 L' L K K' := by rw [hR2]; exact hX.swL
  have hO2 : oModel s R2 208 := hX2.M
  obtain ⟨f3, a5, a6, a7, a8, a9, a10, a11⟩ := x_anew (d := d + 55) (f := f2) (g := g1) (l := fun a k => f2 (L' + a) k) hX2 ⟨fun i hi => rfl, rfl, rfl⟩
  obtain ⟨f4, hf4⟩ : ∃ f4, f4 = ur_u f3 208 0 0 := ⟨_, rfl⟩
  have t4 : eqT (fun a k => a = 208 ∧ k = 0) f3 f4 := by rw [hf4]; exact eqT_u ⟨rfl, rfl⟩
  have old : ∀ a k, (a = 208 ∧ k = 1) ∨ a = 209 → f4 a k = f a k := fun a k hk => by
    rw [t4 _ _ (by omega), a11 _ _ (by unfold TAn; omega), t2 _ _ (by omega), a3 _ _ (by unfold TZa; omega)]
  have q3 : tpC f4 208 209 1 q := ⟨(old 208 1 (by omega)).trans q2.1, q2.2.1, fun k hk => (old 209 k (by omega)).trans (q2.2.2 k hk)⟩
  obtain ⟨w, f5, g5, b1, b2, b3, b4, b5⟩ := m_read (d := d + 54) (g := g1) hO2 q3 hch
  rw [e] at b2
  obtain ⟨bw, ml, mw, m18, m19⟩ : w = 1 ∧ mLn f5 g5 x.1 ∧ lawM f5 (tlC x.2) ∧ f5 218 1 = nI 1000 ∧ f5 219 1 = nI (1000 + (tlC x.2).length) := b2
  subst bw
  obtain ⟨f6, g6, c1, c2, c3, c4, c5, c6, c7, c8, c9⟩ := m_lays (d := d + 57) (f := f5) (g := g5) hO2
  have hN8 := hz.1.1
  have hP5 := hz.1.2.1
  obtain ⟨f7, d1, d2, d3⟩ := m_fresh0 (d := d + 58) (f := f6) (g := g6) (P := zP x.1) hO2 ((c2 2 (by decide)).trans ml.1.2.2) hP5
  obtain ⟨f8, hf8⟩ : ∃ f8, f8 = ur_u (ur_u (ur_u f7 (208 + 25) 0 0) (208 + 29) 0 0) 208 50 0 := ⟨_, rfl⟩
  have t8 : eqT (fun a k => (a = 233 ∧ k = 0) ∨ (a = 237 ∧ k = 0) ∨ (a = 208 ∧ k = 50)) f7 f8 := by
    rw [hf8]
    exact ((eqT_u (by omega)).u (by omega)).u (by omega)
  obtain ⟨f9, u1, u2, u3⟩ := m_unlay (d := d + 59) (f := f8) (g := g6) hO2
  have lo : ∀ a k, a < 208 → f9 a k = f3 a k := fun a k ha => by
    rw [u3 _ _ (by omega), t8 _ _ (by omega), d3 _ _ (by unfold TS; omega), c8 _ _ (by unfold TLz; omega), b3 _ _ (by unfold TMr TMz TMa TG; omega), t4 _ _ (by omega)]
  have up : ∀ a k, 208 < a → a < 233 → f9 a k = f6 a k := fun a k h1 h2 => by
    rw [u3 _ _ (by omega), t8 _ _ (by omega), d3 _ _ (by unfold TS; omega)]
  have kL : ∀ a k, a < 11 → f9 (L' + a) k = f2 (L' + a) k := fun a k ha => by
    rw [lo _ _ (by omega), a11 _ _ (by unfold TAn; omega)]
  obtain ⟨E', E1, E2, E3, E4⟩ := tl_law ht
  have rl : rL f9 208 (fun a k => f2 (L' + a) k) (zN x.1) (zP x.1) := by
    refine r_land (f := f2) (g := g1) (L := L') (t := x.2) hz x2 (fun a k _ => rfl) ?_ ?_ ?_ (fun r hr => ⟨?_, ?_⟩) (fun p hp => ⟨?_, ?_, ?_⟩)
    · rw [up _ _ (by decide) (by decide), c2 0 (by decide)]; exact ml.1.1
    · rw [up _ _ (by decide) (by decide), c2 1 (by decide)]; exact ml.1.2.1
    · rw [up _ _ (by decide) (by decide), c2 2 (by decide)]; exact ml.1.2.2
    · rw [up _ _ (by decide) (by decide), (c3 r (by omega)).2.1]; exact (ml.2.1 r hr).2.1
    · rw [up _ _ (by decide) (by decide), (c3 r (by omega)).2.2]; exact (ml.2.1 r hr).2.2
    · rw [up _ _ (by decide) (by decide), (c4 p (by omega)).2.1]; exact (ml.2.2 p hp).2.1
    · rw [up _ _ (by decide) (by decide), (c4 p (by omega)).2.2.1]; exact (ml.2.2 p hp).2.2.1
    · rw [up _ _ (by decide) (by decide), (c4 p (by omega)).2.2.2]; exact (ml.2.2 p hp).2.2.2
  have bg : bgN (blk f9 33) (fun a k => f2 (L' + a) k) := by
    have eb : ∀ j k, j < 6 → blk f9 33 j k = blk f3 33 j k := fun j k hj => lo (33 + j) k (by omega)
    obtain ⟨y1, y2, y3, y4, y5⟩ := a6
    refine ⟨fun p hp => ?_, (eb 0 5 (by decide)).trans y2, (eb 0 6 (by decide)).trans y3, (eb 0 7 (by decide)).trans y4, (eb 0 8 (by decide)).trans y5⟩
    rw [eb 1 p (by decide), eb 3 p (by decide), eb 2 p (by decide), eb 4 p (by decide), eb 5 p (by decide)]
    exact y1 p hp
  have r217 : f9 (208 + 9) = f6 (208 + 9) := funext (fun k => up 217 k (by decide) (by decide))
  have rn : rN (blk f9 33) (f2 (L' + 0) 9) (zN x.1) (zP x.1) (f9 (208 + 33)) := r_fresh rl bg (fun k hk => by
    rw [r217, u3 _ _ (by omega), t8 _ _ (by omega)]
    exact d2 k hk)
  have lm : lwM f9 208 E' := by
    refine ⟨0, (tlC x.2).length, ?_, ?_, by omega, E2 (f9 (208 + 12)) (fun j hj => ?_)⟩
    · refine (up 218 0 (by decide) (by decide)).trans (c6.trans ?_)
      rw [m18]; rfl
    · refine (up 219 0 (by decide) (by decide)).trans (c7.trans ?_)
      rw [m19, show (1000 : Int32) = nI 1000 from rfl, pk_sub (by omega), show 1000 + (tlC x.2).length - 1000 = 0 + (tlC x.2).length by omega]
    · exact (up 220 j (by decide) (by decide)).trans ((c5 j (by omega)).trans (mw.2 j hj))
  have a1' : ur_call ur_G (d + 59) 12 [.ref L', .ref 1] (s, f, g, R) = some (0, (s, f1, g1, R)) := a1
  have a5' : ur_call ur_G (d + 59) 84 [.ref 0] (s, f2, g1, R2) = some (0, (s, f3, g1, R2)) := a5
  have b1' : ur_call ur_G (d + 59) 168 [.ref 208] (s, f4, g1, R2) = some (1, (s, f5, g5, R2)) := b1
  have c1' : ur_call ur_G (d + 59) 171 [.ref 208] (s, f5, g5, R2) = some (0, (s, f6, g6, R2)) := c1
  have d1' : ur_call ur_G (d + 59) 176 [.ref 208] (s, f6, g6, R2) = some (0, (s, f7, g6, R2)) := d1
  have p1 : ur_pR (s, f2, g1, R) 0 9 1 L' = some (s, f2, g1, ur_u R 0 1 (some L')) := vpR hX.1.1 (by unfold ur_base; omega)
  have p2 : ur_pR (s, f2, g1, ur_u R 0 1 (some L')) 0 9 2 L = some (s, f2, g1, R2) := by rw [hR2]; exact vpR hX.1.1 (by unfold ur_base; omega)
  have w25 : ∀ f : Nat → Nat → Int32, ur_wI (s, f, g6, R2) (208 + 25) 0 (0 : Int32) 0 = some (s, ur_u f (208 + 25) 0 0, g6, R2) := fun f => hO2.w25 (j := 0) (by decide)
  have w29 : ∀ f : Nat → Nat → Int32, ur_wI (s, f, g6, R2) (208 + 29) 0 (0 : Int32) 0 = some (s, ur_u f (208 + 29) 0 0, g6, R2) := fun f => hO2.w29 (j := 0) (by decide)
  have hJ : JV s R2 f9 g6 L' L K K' (fun a k => f2 (L' + a) k) (blk f9 33) (zN x.1) (zP x.1) E' := by
    refine ⟨⟨hX2, ⟨hX2.now, hX2.land, fun i hi => rfl, ⟨fun i hi => funext (fun k => kL i k (by omega)), kL 8 2 (by decide), funext (fun k => kL 9 k (by decide))⟩, by omega, x2.1.2.2.1, hN8, x2.1.2.2.2.2, hP5⟩, ⟨(tlR x.2).length, E3, w2.1, fun u t y n K => E1 (fun k => f2 (L' + 9) k) (fun k hk => w2.2 k hk) u t y n K⟩, ⟨hO2, rl, rn, lm⟩⟩, ⟨fun r hr => ?_, fun p hp => ?_⟩, ⟨0, by decide, ?_, ?_, fun k hk => absurd hk (Nat.not_lt_zero k)⟩, ⟨0, by decide, ?_, ?_, fun i hi => absurd hi (Nat.not_lt_zero i)⟩, ⟨0, by decide, ?_, ?_, fun i hi => absurd hi (Nat.not_lt_zero i)⟩, ?_, fun i hi => ⟨false, ?_, ?_, fun y => by cases y⟩⟩
    · obtain ⟨o1, o2⟩ := (hz.2.1 r hr).1
      refine ⟨zRn x.1 r, o1, o2, ?_, ?_⟩
      · rw [c9 _ _ (by unfold GLz; omega), b4 _ _ (by unfold GMa; omega)]; exact (x2.2.1 r hr).1
      · rw [(c3 r (by omega)).1]; exact (ml.2.1 r hr).1
    · obtain ⟨o1, o2⟩ := (hz.2.2.1 p hp).1
      refine ⟨zPn x.1 p, o1, o2, ?_, ?_⟩
      · rw [c9 _ _ (by unfold GLz; omega), b4 _ _ (by unfold GMa; omega)]; exact (x2.2.2.2 p hp).1
      · rw [(c4 p (by omega)).1]; exact (ml.2.2 p hp).1
    · rw [lo _ _ (by decide), a11 _ _ (by unfold TAn; omega), hf2]; exact ur_us
    · rw [u3 _ _ (by omega), t8 _ _ (by omega), d3 _ _ (by unfold TS; omega), c8 _ _ (by unfold TLz; omega)]; exact b5
    · rw [lo _ _ (by omega)]; exact a7
    · rw [u3 _ _ (by omega), hf8, ur_ua (by decide), ur_ua (by decide)]; exact ur_us
    · rw [lo _ _ (by omega)]; exact a8
    · rw [u3 _ _ (by omega), hf8, ur_ua (by decide)]; exact ur_us
    · obtain ⟨e0, zz, y1, y2, y3, -⟩ := h.2.2.2.2.2.1
      refine ⟨e0, 0, y1, by decide, ?_, ?_, ?_, fun i hi => absurd hi (Nat.not_lt_zero i)⟩
      · rw [lo _ _ (by decide), a11 _ _ (by unfold TAn; omega), t2 _ _ (by omega), a3 _ _ (by unfold TZa; omega)]; exact y3
      · rw [lo _ _ (by decide)]; exact a9
      · rw [u3 _ _ (by omega), hf8]; exact ur_us
    · rw [lo _ _ (by omega)]; exact a10 i hi
    · exact u2 i hi
  refine ⟨0, f3, g1, R2, f9, g6, R2, ur_cl hX.rcv rfl (e_X9_marches_0 _ _ ?_), ur_cl hO2.rcv rfl (e_X10_marches_0 _ _ ?_), hJ.inv⟩
  · simp only [hX.r2, hX.r0, Option.bind_some, a1', hX.tape.pI, ← hf2, e00, decide_true, cond_true, hX.r1, p1, p2, a5']
  · simp only [hO2.pI, Option.bind_some, ← hf4, b1', d10, cond_true, c1', d1', hO2.r36, w25, hO2.r40, w29, ← hf8]
    exact u1
theorem j_marches (h : JV s R f g L L' K K' l V N P E) (hS : s.length ≤ 1000) : JC s R f g (d + 60) 83 177 [] := by
  obtain ⟨q, q1, q2, q3⟩ := tpJ.ch h.2.2.1
  have hch : ∀ k, k < q.1 → q.2 k < 128 := fun k hk => okC_lt (q3 k hk)
  cases e : pAll q (q.1 + 1) 0 z0 none with
  | inl F => exact j_march_no h hS q1 q2 hch e
  | inr x => exact j_march_yes h hS q1 q2 hch e
end URMA

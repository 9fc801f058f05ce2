/-! mark, on both sides -/
section URMK
variable {s : List (Nat ⊕ (Nat × Nat))} {f f' f1 f2 l V V' V2 : Nat → Nat → Int32} {g : Nat → Nat → Int64} {R : Nat → Nat → Option Nat} {L L' K K' d b j p P N k a i z : Nat} {x : Int32} {E : Int32 → Int32 → Int32 → Int32 → Int32} {c : Bool}
def TLy (i : Nat) : Nat → Nat → Prop := fun a k => (152 + 14 * i ≤ a ∧ a < 152 + 14 * i + 14) ∨ (a = 208 ∧ k = 0) ∨ (a = 246 ∧ k = i) ∨ (a = 233 ∧ k = 1 + i) ∨ (234 ≤ a ∧ a ≤ 236 ∧ 40 * (1 + i) ≤ k ∧ k < 40 * (1 + i) + 40) ∨ (a = 237 ∧ k = 1 + i) ∨ (238 ≤ a ∧ a ≤ 240 ∧ 8 * (1 + i) ≤ k ∧ k < 8 * (1 + i) + 8) ∨ (a = 244 ∧ 29 * i ≤ k ∧ k < 29 * i + 29)
def TBk (K i : Nat) : Nat → Nat → Prop := fun a k => (33 ≤ a ∧ a < 39) ∨ (K ≤ a ∧ a < K + 4) ∨ (45 ≤ a ∧ a < 48) ∨ (a = 0 ∧ k = 10) ∨ (a = 208 ∧ (k = 0 ∨ k = 50)) ∨ (a = 246 ∧ k = i) ∨ (a = 233 ∧ k = 0) ∨ (234 ≤ a ∧ a ≤ 236 ∧ k < 40) ∨ (a = 237 ∧ k = 0) ∨ (238 ≤ a ∧ a ≤ 240 ∧ k < 8) ∨ a = 241
theorem mk_lay (h : JV s R f g L L' K K' l V N P E) (hi : i < 4) (t : eqT (TLy i) f f') (hl : f' (152 + 14 * i) 3 = 1) (hm : f' 246 i = 1) (h1 : rN (blk f' (153 + 14 * i)) (l 0 9) N P (fun k => f' 244 (29 * i + k))) (h2 : scR f' (159 + 14 * i) (1 + i) N P) (h3 : seR f' (163 + 14 * i) (1 + i) P) : JV s R f' g L L' K K' l V N P E := by
  obtain ⟨⟨a1, a2, a3, a4⟩, a5, a6, a7, a8, a9, a10⟩ := h
  have hL := a1.eL
  have hK := a1.eK
  have hP := a4.p5
  unfold TLy at t
  refine ⟨⟨a1, a2.fr t (a2.bn.fr t (fun i k hi z => by omega)) (fun a k b1 b2 z => by omega), a3, a4.fr t (fun a k b1 b2 z => by omega) (by rw [t.row (fun k z => by omega)]; exact a4.hn)⟩, a5, a6.fr t (fun a k hk z => by omega), a7.fr t (fun a k hk z => by omega), a8.fr t (fun a k hk z => by omega), a9.fr hP t (fun a k hk z => by omega), fun j hj => ?_⟩
  by_cases hji : j = i
  · subst hji
    exact ⟨true, hl, hm, fun _ => ⟨h1, h2, h3⟩⟩
  · obtain ⟨c, c1, c2, c3⟩ := a10 j hj
    refine ⟨c, ?_, ?_, fun hc => ?_⟩
    · rw [t _ 3 (by omega), c1]
    · rw [t 246 j (by omega), c2]
    · obtain ⟨d1, d2, d3⟩ := c3 hc
      exact ⟨d1.fr hP t (fun b k hb z => by omega), d2.fr t (fun b k hb z => by omega), d3.fr t (fun b k hb z => by omega)⟩
theorem mk_back (h : JV s R f g L L' K K' l V N P E) (hi : i < 4) (t : eqT (TBk K i) f f') (hm : f' 246 i = f 246 i) (hb : bN f' 33 V2) (hn : rN V2 (l 0 9) N P (f' (208 + 33))) (h2 : scR f' K 0 N P) (h3 : seR f' 45 0 P) (p1 : f' 0 10 = 0) (p2 : f' 208 50 = 0) : JV s R f' g L L' K K' l V2 N P E := by
  obtain ⟨⟨a1, a2, a3, a4⟩, a5, a6, a7, a8, a9, a10⟩ := h
  have hL := a1.eL
  have hK := a1.eK
  have hP := a4.p5
  obtain ⟨e, z, he, -, e9, -, -, -⟩ := a9
  unfold TBk at t
  refine ⟨⟨a1, a2.fr t hb (fun a k b1 b2 z => by omega), a3, a4.fr t (fun a k b1 b2 z => by omega) hn⟩, a5, a6.fr t (fun a k hk z => by omega), h2, h3, ⟨e, 0, he, by omega, by rw [t 0 9 (by omega), e9], p1, p2, fun i hi => absurd hi (by omega)⟩, fun j hj => ?_⟩
  obtain ⟨c, c1, c2, c3⟩ := a10 j hj
  refine ⟨c, ?_, ?_, fun hc => ?_⟩
  · rw [t _ 3 (by omega), c1]
  · by_cases hji : j = i
    · rw [hji, hm, ← hji, c2]
    · rw [t 246 j (by omega), c2]
  · obtain ⟨d1, d2, d3⟩ := c3 hc
    exact ⟨d1.fr hP t (fun b k hb z => by omega), d2.fr t (fun b k hb z => by omega), d3.fr t (fun b k hb z => by omega)⟩
theorem j_mark (h : JV s R f g L L' K K' l V N P E) : JC s R f g (d + 60) 134 249 [.int x, .int (ur_b c)] := by
  have hX := h.oX
  have hc := h.cX
  have hM := h.cM
  have h0 := m_thr hM
  have hO := hM.oM
  have hL := hX.eL
  have hK := hX.eK
  have hP := h.p5
  have fls : INV s R (ur_u f 208 0 0) g := (h.q (QX_x eqT.refl (eqT_u SR_0))).inv
  rcases inR_c x (show 4 < 2 ^ 31 by decide) with ⟨i, hi, rfl⟩ | hx
  · have n1 : decide (nI i < (0 : Int32)) = false := decide_eq_false (nI_pos (by omega))
    have n4 : decide (nI i < (4 : Int32)) = true := decide_eq_true (nI_lt (b := 4) hi (by decide))
    have mw : ∀ f', ur_call ur_G (d + 59) 140 [.int (nI i), .int 0, .int 3] (s, f', g, R) = some (1, (s, f', g, R)) := fun f' => by
      rw [show (3 : Int32) = nI 3 from rfl, wth _ (by decide), inR_in hi (by decide)]; rfl
    have hMk := hX.markM hi
    have oN := hMk.oNight1
    have oS := hMk.oScript7
    have oE := hMk.oSeen11
    have n29 : (29 : Int32) * nI i = nI (29 * i) := nI_mul29 i (by omega)
    have nar1 : vp_nar .boolean (1 : Int32) = 1 := nar_b true
    have w38 : ∀ f' v, ur_wI (s, f', g, R) (208 + 38) 2 (nI i) v = some (s, ur_u f' (208 + 38) i v, g, R) := fun f' v => hO.w38 hi
    cases c with
    | false =>
      -- laid
      obtain ⟨f1, a1, a2, a3⟩ := c_copy (d := d + 57) (f := f) (g := g) oN hX.now (Or.inr (by omega))
      obtain ⟨f2, b1, b2, b3, b4⟩ := c_copyS (d := d + 57) (f := f1) (g := g) oS hX.scr (Or.inr (by omega))
      obtain ⟨f3, c1, c2, c3, c4, c5⟩ := c_copyE (d := d + 57) (f := f2) (g := g) oE hX.seen (Or.inr (by omega))
      obtain ⟨f4, hf4⟩ : ∃ f4, f4 = ur_u f3 (152 + 14 * i) 3 1 := ⟨_, rfl⟩
      obtain ⟨f5, hf5⟩ : ∃ f5, f5 = ur_u (ur_u f4 208 0 0) (208 + 38) i 1 := ⟨_, rfl⟩
      obtain ⟨f6, e1, e2, e3, e4⟩ := m_laysLines (d := d + 58) (f := f5) (g := g) (i := 0) (j := 1 + i) hO (by decide) (by omega) (by omega)
      obtain ⟨f7, g1, g2, g3, g4, g5⟩ := m_laysSeen (d := d + 58) (f := f6) (g := g) (i := 0) (j := 1 + i) hO (by decide) (by omega) (by omega)
      obtain ⟨f8, k1, k2, k3⟩ := t_copies (d := d + 58) (f := f7) (g := g) (R := R) (i0 := 0) (j0 := 29 * i) hO.s33 hO.s36 (by decide) (by omega) (by decide) (by decide) (show 208 + 33 ≠ 208 + 36 by decide)
      have t4 : eqT (fun a _ => 152 + 14 * i ≤ a ∧ a < 152 + 14 * i + 14) f f4 := by
        rw [hf4]
        exact (((a3.mono (fun a k z => by unfold TN at z; omega)).trans (b4.mono (fun a k z => by omega))).trans (c5.mono (fun a k z => by omega))).u (by omega)
      have t : eqT (TLy i) f f8 := by
        unfold TLy
        refine ((((t4.mono (fun a k z => by omega)).trans ?_).trans (e4.mono (fun a k z => by omega))).trans (g5.mono (fun a k z => by omega))).trans (k3.mono (fun a k z => by omega))
        rw [hf5]
        exact (eqT_u (by omega)).u (by omega)
      have low : ∀ a, a < 208 → f8 a = f4 a := fun a ha => by
        rw [k3.row (fun k z => by omega), g5.row (fun k z => by omega), e4.row (fun k z => by omega), hf5, ur_ua (by omega), ur_ua (by omega)]
      have hi5 : ∀ a, 208 < a → a ≠ 246 → f5 a = f a := fun a h1 h2 => by
        rw [hf5, ur_ua (by omega), ur_ua (by omega), t4.row (fun k z => by omega)]
      have m0 : f4 (152 + 14 * i) 3 = 1 := by rw [hf4, ur_us]
      have hJ : JV s R f8 g L L' K K' l V N P E := by
        refine mk_lay h hi t (by rw [low _ (by omega), m0]) ?_ ?_ ?_ ?_
        · rw [k3.row (fun k z => by omega), g5.row (fun k z => by omega), e4.row (fun k z => by omega), hf5]
          exact ur_us
        · refine hM.hn.eqv hP ⟨fun q k q1 q2 q3 => ?_, fun k q1 q2 => ?_⟩ (fun k hk => ?_)
          · show f8 (153 + 14 * i + q) k = V q k
            rw [low _ (by omega), hf4, ur_ua (by omega), c5.row (fun k z => by omega), b4.row (fun k z => by omega)]
            have := a2.1 q k q1 q2 q3
            rw [show blk f1 (152 + 14 * i + 1) q k = f1 (152 + 14 * i + 1 + q) k from rfl, show 152 + 14 * i + 1 + q = 153 + 14 * i + q by omega] at this
            rw [this]
            show f (33 + q) k = V q k
            rw [hc.bn q (by omega)]
          · show f8 (153 + 14 * i + 0) k = V 0 k
            rw [low _ (by omega), hf4, ur_ua (by omega), c5.row (fun k z => by omega), b4.row (fun k z => by omega)]
            have := a2.2 k q1 q2
            rw [show blk f1 (152 + 14 * i + 1) 0 k = f1 (152 + 14 * i + 1 + 0) k from rfl, show 152 + 14 * i + 1 + 0 = 153 + 14 * i + 0 by omega] at this
            rw [this]
            show f (33 + 0) k = V 0 k
            rw [hc.bn 0 (by omega)]
          · have := k2 k hk
            rw [show f8 (208 + 36) (29 * i + k) = f8 244 (29 * i + k) from rfl, Nat.zero_add] at this
            rw [this, g5.row (fun k z => by omega), e4.row (fun k z => by omega), hi5 _ (by decide) (by decide)]
        · refine h.2.2.2.1.cp ?_ (fun q k q1 q2 q3 => ?_) ?_ (fun a k q1 q2 q3 => ?_)
          · rw [low _ (by omega), hf4, ur_ua (by omega), c5.row (fun k z => by omega), show 159 + 14 * i = 152 + 14 * i + 7 by omega, b2, a3.row (fun k z => by unfold TN at z; omega)]
          · rw [low _ (by omega), hf4, ur_ua (by omega), c5.row (fun k z => by omega), show 159 + 14 * i + q = 152 + 14 * i + 7 + q by omega, b3 q k q1 q2 q3, a3.row (fun k z => by unfold TN at z; omega)]
          · rw [k3.row (fun k z => by omega), g5.row (fun k z => by omega)]
            rw [show f6 233 (1 + i) = f6 (208 + 25) (1 + i) from rfl, e2, hi5 _ (by decide) (by decide)]
          · rw [k3.row (fun k z => by omega), g5.row (fun k z => by omega)]
            have := e3 (a - 208) k (by omega) (by omega) q3
            rw [show 208 + (a - 208) = a by omega] at this
            rw [this, hi5 _ (by omega) (by omega)]
        · refine h.2.2.2.2.1.cp ?_ ?_ (fun q k q1 q2 q3 => ?_) ?_ (fun a k q1 q2 q3 => ?_) (fun k q3 => ?_)
          · rw [low _ (by omega), hf4, ur_ua (by omega), show 163 + 14 * i = 152 + 14 * i + 11 by omega, c2, b4.row (fun k z => by omega), a3.row (fun k z => by unfold TN at z; omega)]
          · rw [low _ (by omega), hf4, ur_ua (by omega), show 163 + 14 * i = 152 + 14 * i + 11 by omega, c3, b4.row (fun k z => by omega), a3.row (fun k z => by unfold TN at z; omega)]
          · rw [low _ (by omega), hf4, ur_ua (by omega), show 163 + 14 * i + q = 152 + 14 * i + 11 + q by omega, c4 q k q1 q2 q3, b4.row (fun k z => by omega), a3.row (fun k z => by unfold TN at z; omega)]
          · rw [k3.row (fun k z => by omega), show f7 237 (1 + i) = f7 (208 + 29) (1 + i) from rfl, g2, e4.row (fun k z => by omega), hi5 _ (by decide) (by decide)]
          · rw [k3.row (fun k z => by omega)]
            have := g3 (a - 208) k (by omega) (by omega) q3
            rw [show 208 + (a - 208) = a by omega] at this
            rw [this, e4.row (fun k z => by omega), hi5 _ (by omega) (by omega)]
          · rw [k3.row (fun k z => by omega), show f7 240 (8 * (1 + i) + k) = f7 (208 + 32) (8 * (1 + i) + k) from rfl, g4 k q3, e4.row (fun k z => by omega), hi5 _ (by decide) (by decide)]
      refine ⟨1, f4, g, R, f8, g, R, ur_cl hX.rcv rfl (e_X9_mark_0 _ _ _ _ ?_), ur_cl hO.rcv rfl (e_X10_mark_0 _ _ _ _ ?_), hJ.inv⟩
      · have e : ur_call ur_G (d + 59) 37 [.ref (152 + 14 * i), .ref 33, .ref K, .ref 45] (s, f, g, R) = some (0, (s, f4, g, R)) := by
          refine ur_cl hMk.rcv rfl (e_X4_lay_0 _ _ _ _ _ ?_)
          simp only [hMk.r0, hMk.r1, hMk.r2, Option.bind_some, a1, b1, c1, vpZ hMk.o (Or.inr rfl), ← hf4]
        simp only [n1, n4, cond_false, cond_true, hX.r11, Option.bind_some, hX.mark hi, hX.r5, hX.r3, hX.r7, e]
        rfl
      · have n1i : (1 : Int32) + nI i = nI (1 + i) := nI_add 1 i
        have e1' : ur_call ur_G (d + 59) 174 [.ref 208, .int (0 : Int32), .int (nI (1 + i))] (s, f5, g, R) = some (0, (s, f6, g, R)) := e1
        have g1' : ur_call ur_G (d + 59) 175 [.ref 208, .int (0 : Int32), .int (nI (1 + i))] (s, f6, g, R) = some (0, (s, f7, g, R)) := g1
        have k1' : ur_call ur_G (d + 59) 172 [.ref (208 + 33), .int (0 : Int32), .ref (208 + 36), .int (nI (29 * i))] (s, f7, g, R) = some (0, (s, f8, g, R)) := k1
        have last : ur_at ur_G (d + 59) 249 (29, [some (.ref 208), some (.int (nI i)), some (.int (ur_b false)), none, none], [], (s, ur_u f4 208 0 0, g, R)) = some (1, (s, f8, g, R)) := by
          refine e_X10_mark_29 _ _ _ _ ?_
          simp only [hO.r49, Option.bind_some, nar1, w38, ← hf5, ub_0, Bool.not_false, cond_true, n1i]
          refine e_X10_mark_59 _ _ _ _ _ _ ?_
          simp only [e1', g1', Option.bind_some, ub_0, Bool.not_false, cond_true, hO.r44, hO.r47, n29, k1']
        simp only [hO.pI, Option.bind_some, mw, ub_0, Bool.not_false, cond_true, show decide ((1 : Int32) = 0) = false from by decide, cond_false]
        exact last
    | true =>
      obtain ⟨c, l1, l2, l3⟩ := h.2.2.2.2.2.2 i hi
      have aB : ∀ f', ur_aB (s, f', g, R) (208 + 38) (nI i) = some (f' (208 + 38) i) := fun f' => by
        unfold ur_aB
        rw [decide_eq_true (show 208 + 38 < ur_base by unfold ur_base; omega), cond_true, hO.a38 hi]
      cases c with
      | false =>
        refine ⟨0, f, g, R, ur_u f 208 0 0, g, R, ur_cl hX.rcv rfl (e_X9_mark_0 _ _ _ _ ?_), ur_cl hO.rcv rfl (e_X10_mark_0 _ _ _ _ ?_), fls⟩
        · simp only [n1, n4, cond_false, cond_true, hX.r11, Option.bind_some, hX.mark hi, hMk.I, l1]; rfl
        · have e : ur_u f 208 0 0 (208 + 38) i = ur_b false := l2
          simp only [hO.pI, Option.bind_some, mw, hO.r49, aB, e]; rfl
      | true =>
        obtain ⟨m1, m2, m3⟩ := l3 rfl
        obtain ⟨f1, a1, a2, a3⟩ := c_copy (d := d + 57) (f := f) (g := g) hX.now oN (Or.inl (by omega))
        obtain ⟨f2, b1, b2, b3, b4⟩ := c_copyS (d := d + 57) (f := f1) (g := g) hX.scr oS (Or.inl (by omega))
        obtain ⟨f3, c1, c2, c3, c4, c5⟩ := c_copyE (d := d + 57) (f := f2) (g := g) hX.seen oE (Or.inl (by omega))
        obtain ⟨f4, hf4⟩ : ∃ f4, f4 = ur_u f3 0 10 0 := ⟨_, rfl⟩
        obtain ⟨f5, hf5⟩ : ∃ f5, f5 = ur_u (ur_u f4 208 0 0) (208 + 38) i 1 := ⟨_, rfl⟩
        obtain ⟨f6, e1, e2, e3, e4⟩ := m_laysLines (d := d + 58) (f := f5) (g := g) (i := 1 + i) (j := 0) hO (by omega) (by decide) (by omega)
        obtain ⟨f7, g1, g2, g3, g4, g5⟩ := m_laysSeen (d := d + 58) (f := f6) (g := g) (i := 1 + i) (j := 0) hO (by omega) (by decide) (by omega)
        obtain ⟨f8, k1, k2, k3⟩ := t_copies (d := d + 58) (f := f7) (g := g) (R := R) (i0 := 29 * i) (j0 := 0) hO.s36 hO.s33 (by omega) (by decide) (by decide) (by decide) (show 208 + 36 ≠ 208 + 33 by decide)
        obtain ⟨f9, hf9⟩ : ∃ f9, f9 = ur_u f8 208 50 0 := ⟨_, rfl⟩
        have t4 : eqT (fun a k => (33 ≤ a ∧ a < 39) ∨ (K ≤ a ∧ a < K + 4) ∨ (45 ≤ a ∧ a < 48) ∨ (a = 0 ∧ k = 10)) f f4 := by
          rw [hf4]
          exact (((a3.mono (fun a k z => by unfold TN at z; omega)).trans (b4.mono (fun a k z => by omega))).trans (c5.mono (fun a k z => by omega))).u (by omega)
        have t : eqT (TBk K i) f f9 := by
          unfold TBk
          rw [hf9]
          refine (((((t4.mono (fun a k z => by omega)).trans ?_).trans (e4.mono (fun a k z => by omega))).trans (g5.mono (fun a k z => by omega))).trans (k3.mono (fun a k z => by omega))).u (by omega)
          rw [hf5]
          exact (eqT_u (by omega)).u (by omega)
        have low : ∀ a, a < 208 → f9 a = f4 a := fun a ha => by
          rw [hf9, ur_ua (by omega), k3.row (fun k z => by omega), g5.row (fun k z => by omega), e4.row (fun k z => by omega), hf5, ur_ua (by omega), ur_ua (by omega)]
        have hi5 : ∀ a, 208 < a → a ≠ 246 → f5 a = f a := fun a h1 h2 => by
          rw [hf5, ur_ua (by omega), ur_ua (by omega), t4.row (fun k z => by omega)]
        have hi9 : ∀ a, 208 < a → f9 a = f8 a := fun a h1 => by rw [hf9, ur_ua (by omega)]
        have hJ : JV s R f9 g L L' K K' l (blk f9 33) N P E := by
          refine mk_back h hi t ?_ bN_blk ?_ ?_ ?_ ?_ ?_
          · rw [hi9 _ (by decide), k3.row (fun k z => by omega), g5.row (fun k z => by omega), e4.row (fun k z => by omega), hf5, l2]
            exact ur_us
          · refine m1.eqv hP ⟨fun q k q1 q2 q3 => ?_, fun k q1 q2 => ?_⟩ (fun k hk => ?_)
            · show f9 (33 + q) k = f (153 + 14 * i + q) k
              rw [low _ (by omega), hf4, ur_ua (by omega), c5.row (fun k z => by omega), b4.row (fun k z => by omega)]
              have := a2.1 q k q1 q2 q3
              rw [show blk f1 33 q k = f1 (33 + q) k from rfl] at this
              rw [this]
              show f (152 + 14 * i + 1 + q) k = f (153 + 14 * i + q) k
              rw [show 152 + 14 * i + 1 + q = 153 + 14 * i + q by omega]
            · show f9 (33 + 0) k = f (153 + 14 * i + 0) k
              rw [low _ (by omega), hf4, ur_ua (by omega), c5.row (fun k z => by omega), b4.row (fun k z => by omega)]
              have := a2.2 k q1 q2
              rw [show blk f1 33 0 k = f1 (33 + 0) k from rfl] at this
              rw [this]
              show f (152 + 14 * i + 1 + 0) k = f (153 + 14 * i + 0) k
              rw [show 152 + 14 * i + 1 + 0 = 153 + 14 * i + 0 by omega]
            · have := k2 k hk
              rw [Nat.zero_add] at this
              rw [hi9 _ (by decide), this, g5.row (fun k z => by omega), e4.row (fun k z => by omega), hi5 _ (by decide) (by decide)]
          · refine m2.cp ?_ (fun q k q1 q2 q3 => ?_) ?_ (fun a k q1 q2 q3 => ?_)
            · rw [low _ (by omega), hf4, ur_ua (by omega), c5.row (fun k z => by omega), b2, a3.row (fun k z => by unfold TN at z; omega), show 152 + 14 * i + 7 = 159 + 14 * i by omega]
            · rw [low _ (by omega), hf4, ur_ua (by omega), c5.row (fun k z => by omega), b3 q k q1 q2 q3, a3.row (fun k z => by unfold TN at z; omega), show 152 + 14 * i + 7 + q = 159 + 14 * i + q by omega]
            · rw [hi9 _ (by decide), k3.row (fun k z => by omega), g5.row (fun k z => by omega)]
              rw [show f6 233 0 = f6 (208 + 25) 0 from rfl, e2, hi5 _ (by decide) (by decide)]
            · rw [hi9 _ (by omega), k3.row (fun k z => by omega), g5.row (fun k z => by omega)]
              have := e3 (a - 208) k (by omega) (by omega) q3
              rw [show 208 + (a - 208) = a by omega] at this
              rw [this, hi5 _ (by omega) (by omega)]
          · refine m3.cp ?_ ?_ (fun q k q1 q2 q3 => ?_) ?_ (fun a k q1 q2 q3 => ?_) (fun k q3 => ?_)
            · rw [low _ (by omega), hf4, ur_ua (by omega), c2, b4.row (fun k z => by omega), a3.row (fun k z => by unfold TN at z; omega), show 152 + 14 * i + 11 = 163 + 14 * i by omega]
            · rw [low _ (by omega), hf4, ur_ua (by omega), c3, b4.row (fun k z => by omega), a3.row (fun k z => by unfold TN at z; omega), show 152 + 14 * i + 11 = 163 + 14 * i by omega]
            · rw [low _ (by omega), hf4, ur_ua (by omega), c4 q k q1 q2 q3, b4.row (fun k z => by omega), a3.row (fun k z => by unfold TN at z; omega), show 152 + 14 * i + 11 + q = 163 + 14 * i + q by omega]
            · rw [hi9 _ (by decide), k3.row (fun k z => by omega), show f7 237 0 = f7 (208 + 29) 0 from rfl, g2, e4.row (fun k z => by omega), hi5 _ (by decide) (by decide)]
            · rw [hi9 _ (by omega), k3.row (fun k z => by omega)]
              have := g3 (a - 208) k (by omega) (by omega) q3
              rw [show 208 + (a - 208) = a by omega] at this
              rw [this, e4.row (fun k z => by omega), hi5 _ (by omega) (by omega)]
            · rw [hi9 _ (by decide), k3.row (fun k z => by omega), show f7 240 (8 * 0 + k) = f7 (208 + 32) (8 * 0 + k) from rfl, g4 k q3, e4.row (fun k z => by omega), hi5 _ (by decide) (by decide)]
          · rw [low _ (by omega), hf4, ur_us]
          · rw [hf9, ur_us]
        refine ⟨1, f4, g, R, f9, g, R, ur_cl hX.rcv rfl (e_X9_mark_0 _ _ _ _ ?_), ur_cl hO.rcv rfl (e_X10_mark_0 _ _ _ _ ?_), hJ.inv⟩
        · have e : ur_call ur_G (d + 59) 38 [.ref (152 + 14 * i), .ref 33, .ref K, .ref 45] (s, f, g, R) = some (0, (s, f3, g, R)) := by
            refine ur_cl hMk.rcv rfl (e_X4_giveBack_0 _ _ _ _ _ ?_)
            simp only [hMk.r0, hMk.r1, hMk.r2, Option.bind_some, a1, b1, c1]
          simp only [n1, n4, cond_false, cond_true, hX.r11, Option.bind_some, hX.mark hi, hMk.I, l1, hX.r5, hX.r3, hX.r7, e, hX.pI, ← hf4]
          rfl
        · have n1i : (1 : Int32) + nI i = nI (1 + i) := nI_add 1 i
          have e1' : ur_call ur_G (d + 59) 174 [.ref 208, .int (nI (1 + i)), .int (0 : Int32)] (s, f5, g, R) = some (0, (s, f6, g, R)) := e1
          have g1' : ur_call ur_G (d + 59) 175 [.ref 208, .int (nI (1 + i)), .int (0 : Int32)] (s, f6, g, R) = some (0, (s, f7, g, R)) := g1
          have k1' : ur_call ur_G (d + 59) 172 [.ref (208 + 36), .int (nI (29 * i)), .ref (208 + 33), .int (0 : Int32)] (s, f7, g, R) = some (0, (s, f8, g, R)) := k1
          have last : ur_at ur_G (d + 59) 249 (29, [some (.ref 208), some (.int (nI i)), some (.int (ur_b true)), none, none], [], (s, ur_u f4 208 0 0, g, R)) = some (1, (s, f9, g, R)) := by
            refine e_X10_mark_29 _ _ _ _ ?_
            simp only [hO.r49, Option.bind_some, nar1, w38, ← hf5, ub_0, Bool.not_true, cond_false, n1i]
            refine e_X10_mark_59 _ _ _ _ _ _ ?_
            simp only [e1', g1', Option.bind_some, ub_0, Bool.not_true, cond_false, hO.r44, hO.r47, n29, k1', hO.pI, ← hf9]
          have e : ur_u f4 208 0 0 (208 + 38) i = ur_b true := by rw [ur_ua (by decide), t4.row (fun k z => by omega)]; exact l2
          simp only [hO.pI, Option.bind_some, mw, ub_0, Bool.not_true, cond_false, show decide ((1 : Int32) = 0) = false from by decide, hO.r49, aB, e, ub_n0, cond_true]
          exact last
  · refine ⟨0, f, g, R, ur_u f 208 0 0, g, R, ur_cl hX.rcv rfl (e_X9_mark_0 _ _ _ _ ?_), ur_cl hO.rcv rfl (e_X10_mark_0 _ _ _ _ ?_), fls⟩
    · have e : decide (x < (4 : Int32)) = !decide (nI 4 ≤ x) := by
        by_cases q : x < (4 : Int32)
        · rw [decide_eq_true q, decide_eq_false (show ¬ nI 4 ≤ x from Int32.not_le.mpr q)]; rfl
        · rw [decide_eq_false q, decide_eq_true (show nI 4 ≤ x from Int32.not_lt.mp q)]; rfl
      unfold inR at hx
      rw [e]
      cases q1 : decide (x < 0) with
      | true => rfl
      | false => rw [q1] at hx; rw [show (!decide (nI 4 ≤ x)) = false from by simpa using hx]; rfl
    · simp only [hO.pI, Option.bind_some, show (3 : Int32) = nI 3 from rfl, wth x (show 3 + 1 < 2 ^ 31 by decide), hx]
      rfl
end URMK

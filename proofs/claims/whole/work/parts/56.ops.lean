/-! CALLS THAT DO, on both sides -/
def TA (L : Nat) : Nat → Nat → Prop := fun a k => (a = 0 ∧ (k = 9 ∨ k = 10)) ∨ (56 ≤ a ∧ a < 152) ∨ TNL 33 L a k ∨ (a = 208 ∧ (k = 0 ∨ k = 50)) ∨ a = 245 ∨ TM 208 a k
section URM6
variable {s : List (Nat ⊕ (Nat × Nat))} {f f' f1 f2 f3 f4 l V V' V2 : Nat → Nat → Int32} {g : Nat → Nat → Int64} {R : Nat → Nat → Option Nat} {L L' K K' D d b j p P N w n k k' e z : Nat} {U r x y v v' : Int32} {E : Int32 → Int32 → Int32 → Int32 → Int32} {as : List Value}
/-- how it is has changed, and what can be undone -/
theorem mk_JV (h : JV s R f g L L' K K' l V N P E) (t : eqT (TA L) f f') (hb : bN f' 33 V2) (hM : cM s R f' 208 l V2 N P E) (hp : paR f' (l 0 9) N P) : JV s R f' g L L' K K' l V2 N P E := by
  obtain ⟨⟨h1, h2, h3, h4⟩, h5, h6, h7, h8, h9, h10⟩ := h
  have hL := h1.eL
  have hK := h1.eK
  have hP := h4.p5
  have no : ∀ a k, TA L a k → (a = 0 ∧ (k = 9 ∨ k = 10)) ∨ (56 ≤ a ∧ a < 152) ∨ (33 ≤ a ∧ a < 39) ∨ ((a = L + 8 ∧ k = 3) ∨ a = L + 10) ∨ (a = 208 ∧ (k = 0 ∨ k = 50)) ∨ a = 245 ∨ a = 241 ∨ (223 ≤ a ∧ a < 233) := fun a k z => by
    unfold TA TNL TN TM TL at z
    omega
  refine ⟨⟨h1, h2.fr t hb (fun a k a1 a2 z => ?_), h3, hM⟩, h5, h6.fr t (fun a k hk z => ?_), h7.fr t (fun a k hk z => ?_), h8.fr t (fun a k hk z => ?_), hp, h10.fr hP t (fun a k hk z => ?_)⟩ <;> have := no _ _ z <;> (try unfold TL) <;> omega
theorem j_do (h : JV s R f g L L' K K' l V N P E) {CX CM : (Nat → Nat → Int32) → Option ur_V} (hx : ∀ f1, cX s R f1 33 L l V N P → ∃ f2, CX f1 = some (v, (s, f2, g, R)) ∧ bN f2 33 V2 ∧ eqT (TNL 33 L) f1 f2) (hm : ∀ f3, cM s R f3 208 l V N P E → ∃ f4, CM f3 = some (v', (s, f4, g, R)) ∧ cM s R f4 208 l V2 N P E ∧ eqT (TM 208) f3 f4) : ∃ f1 f2 f3 f4, ur_call ur_G (d + 2) 93 [.ref 0] (s, f, g, R) = some (0, (s, f1, g, R)) ∧ CX f1 = some (v, (s, f2, g, R)) ∧ cM s R (ur_u f2 208 0 0) 208 l V N P E ∧ ur_call ur_G (d + 2) 203 [.ref 208] (s, ur_u f2 208 0 0, g, R) = some (0, (s, f3, g, R)) ∧ CM f3 = some (v', (s, f4, g, R)) ∧ JV s R f4 g L L' K K' l V2 N P E := by
  have hX := h.oX
  have hc := h.cX
  have hP := h.p5
  have hL := hX.eL
  obtain ⟨e, z, he, hz, e9, e10, e50, h6⟩ := h.2.2.2.2.2.1
  obtain ⟨f1, a1, a2, a3, a4, a5⟩ := x_remember (d := d) (f := f) (g := g) hX he hz e9 e10
  have hc1 : cX s R f1 33 L l V N P := hc.fr a5 (hc.bn.fr a5 (fun i k hi z => by unfold TR TN at z; omega)) (fun a k b1 b2 z => by unfold TR TN at z; omega)
  obtain ⟨f2, b1, b2, b3⟩ := hx f1 hc1
  have t2 : eqT (fun a k => TR e a k ∨ TNL 33 L a k) f f2 := (a5.mono (fun _ _ z => Or.inl z)).trans (b3.mono (fun _ _ z => Or.inr z))
  have r2 : ∀ a, 208 ≤ a → f2 a = f a := fun a ha => t2.row (fun k z => by unfold TR TNL TN TL at z; omega)
  have hM2 : cM s R f2 208 l V N P E := h.cM.fr t2 (fun a k q1 q2 z => by unfold TR TNL TN TL at z; omega) (by rw [r2 _ (by decide)]; exact h.cM.hn)
  have hM3 := m_thr hM2
  have e50' : ur_u f2 208 0 0 208 50 = nI z := by rw [ur_un (by decide), r2 208 (by decide)]; exact e50
  obtain ⟨f3, c1, c2, c3, c4, c5⟩ := m_keeps (d := d) (g := g) hM3.oM hz e50'
  have hM4 : cM s R f3 208 l V N P E := hM3.fr c5 (fun a k q1 q2 z => by unfold TKe at z; omega) (by rw [c5.row (fun k z => by unfold TKe at z; omega)]; exact hM3.hn)
  obtain ⟨f4, d1, d2, d3⟩ := hm f3 hM4
  have t4 : eqT (TA L) f f4 := by
    refine (((t2.mono (fun a k q => ?_)).u ?_).trans (c5.mono (fun a k q => ?_))).trans (d3.mono (fun a k q => ?_))
    · unfold TA TNL TN TL TM; unfold TR TNL TN TL at q; omega
    · unfold TA TNL TN TL TM; omega
    · unfold TA TNL TN TL TM; unfold TKe at q; omega
    · unfold TA; exact Or.inr (Or.inr (Or.inr (Or.inr (Or.inr q))))
  have low : ∀ a, a < 208 → f4 a = f2 a := fun a ha => by
    rw [d3.row (fun k z => by unfold TM at z; omega), c5.row (fun k z => by unfold TKe at z; omega), ur_ua (by omega)]
  have e245 : f4 245 = f3 245 := d3.row (fun k z => by unfold TM at z; omega)
  refine ⟨f1, f2, f3, f4, a1, b1, hM3, c1, d1, mk_JV h t4 (fun i hi => by rw [low _ (by omega)]; exact b2 i hi) d2 ?_⟩
  refine paR_push (f := f) (e := e) (z := z) hP he hz h6 ?_ ?_ ?_ ?_ ?_ ?_
  · rw [low 0 (by decide), b3.row (fun k z => by unfold TNL TN TL at z; omega), a3]
  · rw [low 0 (by decide), b3.row (fun k z => by unfold TNL TN TL at z; omega), a4]
  · rw [d3 208 50 (fun z => by unfold TM at z; omega)]; exact c2
  · refine h.cM.hn.eqv hP ?_ (fun k hk => ?_)
    · refine ⟨fun i k q1 q2 q3 => ?_, fun k q1 q2 => ?_⟩
      · show f4 (56 + 6 * e + i) k = V i k
        rw [low _ (by omega), b3 _ _ (fun z => by unfold TNL TN TL at z; omega)]
        have := a2.1 i k q1 q2 q3
        rw [show blk f1 (56 + 6 * e) i k = f1 (56 + 6 * e + i) k from rfl] at this
        rw [this]
        show f (33 + i) k = V i k
        rw [hc.bn i (by omega)]
      · show f4 (56 + 6 * e + 0) k = V 0 k
        rw [low _ (by omega), b3 _ _ (fun z => by unfold TNL TN TL at z; omega)]
        have := a2.2 k q1 q2
        rw [show blk f1 (56 + 6 * e) 0 k = f1 (56 + 6 * e + 0) k from rfl] at this
        rw [this]
        show f (33 + 0) k = V 0 k
        rw [hc.bn 0 (by omega)]
    · rw [e245]
      have := c3 k hk
      rw [show f3 (208 + 37) (29 * (min (z + 1) 16 - 1) + k) = f3 245 (29 * (min (z + 1) 16 - 1) + k) from rfl] at this
      rw [this, ur_ua (by decide), r2 _ (by decide)]
  · intro a k q1 q2 q3
    rw [low _ (by omega), b3 _ _ (fun z => by unfold TNL TN TL at z; omega), a5 _ _ (fun z => by unfold TR at z; rcases z with z | z; exact q3 z; omega)]
  · intro i hi k hk
    rw [e245]
    have := c4 i hi k hk
    rw [show f3 (208 + 37) (29 * i + k) = f3 245 (29 * i + k) from rfl] at this
    rw [this, ur_ua (by decide), r2 _ (by decide)]
theorem j_minute (h : JV s R f g L L' K K' l V N P E) : JC s R f g (d + 60) 92 208 [] := by
  have hX := h.oX
  obtain ⟨f1, f2, f3, f4, c1, c2, c3, c4, c5, c6⟩ := j_do (d := d + 57) h (CX := fun f => ur_call ur_G (d + 59) 58 [.ref 33, .ref L] (s, f, g, R)) (CM := fun f => ur_call ur_G (d + 59) 200 [.ref 208] (s, f, g, R)) (fun f1 hc => c_passMinute (d := d + 55) (g := g) hc h.wf.ok) (fun f3 hM => m_passes (d := d + 54) (g := g) hM)
  refine ⟨(pasV l P V).1, f2, g, R, f4, g, R, ur_cl hX.rcv rfl (e_X9_minute_0 _ _ ?_), ur_cl h.cM.oM.rcv rfl (e_X10_minute_0 _ _ ?_), c6.inv⟩
  · simp only [c1, hX.r5, hX.r1, Option.bind_some, c2]
  · simp only [h.cM.oM.pI, Option.bind_some, c4, c5]
theorem j_walk (h : JV s R f g L L' K K' l V N P E) : JC s R f g (d + 60) 88 204 [.int x, .int y] := by
  have hX := h.oX
  have hc := h.cX
  have hM := h.cM
  have h0 := m_thr hM
  have hO := hM.oM
  have h5 := h.p5
  have h8 := h.r8
  have fls : JV s R (ur_u f 208 0 0) g L L' K K' l V N P E := h.q (QX_x eqT.refl (eqT_u SR_0))
  rcases inR_c x (show P < 2 ^ 31 by omega) with ⟨p, hp, rfl⟩ | hx
  · have mP : ∀ f1 V1, cM s R f1 208 l V1 N P E → ur_call ur_G (d + 59) 180 [.ref 208, .int (nI p)] (s, f1, g, R) = some (1, (s, f1, g, R)) := fun f1 V1 hM => by
      rw [t_isPerson hM.oM hM.ep, inR_in hp (by omega)]; rfl
    rcases inR_c y (show N < 2 ^ 31 by omega) with ⟨j, hj, rfl⟩ | hy
    · have mR : ∀ f1 V1, cM s R f1 208 l V1 N P E → ur_call ur_G (d + 59) 179 [.ref 208, .int (nI j)] (s, f1, g, R) = some (1, (s, f1, g, R)) := fun f1 V1 hM => by
        rw [t_isRoom hM.oM hM.er, inR_in hj (by omega)]; rfl
      obtain ⟨w, hwN, hw8, hw, -⟩ := hM.wh hp
      have cc := c_canWalk (d := d + 56) (g := g) hc hp hj hw hw8
      cases hq : wkV l V p j w with
      | false =>
        rw [hq] at cc
        obtain ⟨v, g1, g2, -⟩ := m_goesBit (d := d + 56) (g := g) h0 hp hw hwN
        refine ⟨0, f, g, R, _, g, R, ur_cl hX.rcv rfl (e_X9_walk_0 _ _ _ _ ?_), ur_cl hO.rcv rfl (e_X10_walk_0 _ _ _ _ ?_), fls.inv⟩
        · simp only [hX.r5, hX.r1, Option.bind_some, cc]; rfl
        · simp only [hO.pI, Option.bind_some, mP _ _ h0, mR _ _ h0, g1, b_bit (show j < 32 by omega), g2 j hj, hq]; rfl
      | true =>
        rw [hq] at cc
        obtain ⟨f1, f2, f3, f4, c1, c2, c3, c4, c5, c6⟩ := j_do (d := d + 57) h (V2 := twV V p j) (v := ur_b true) (v' := 1) (CX := fun f => ur_call ur_G (d + 59) 49 [.ref 33, .ref L, .int (nI p), .int (nI j)] (s, f, g, R)) (CM := fun f => (ur_wI (s, f, g, R) (208 + 33) 0 ((4 : Int32) + nI p) (nI j)).bind fun m => some (1, m)) (fun f1 hc => by
            have := c_tryWalk (d := d + 55) (g := g) hc hp hj hw hw8
            rw [hq] at this
            exact this) (fun f3 hM => by
            have t : eqT (TM 208) f3 (ur_u f3 (208 + 33) (4 + p) (nI j)) := eqT_u (Or.inl rfl)
            refine ⟨ur_u f3 (208 + 33) (4 + p) (nI j), ?_, hM.fr t TM_no ?_, t⟩
            · rw [show (4 : Int32) + nI p = nI (4 + p) from nI_add 4 p, hM.oM.w33 (show 4 + p < 29 by omega)]; rfl
            · rw [ur_uS rfl]
              exact r_tw hM.hl hM.hn hp hj hq)
        obtain ⟨v, g1, g2, -⟩ := m_goesBit (d := d + 56) (g := g) c3 hp hw hwN
        refine ⟨1, f2, g, R, f4, g, R, ur_cl hX.rcv rfl (e_X9_walk_0 _ _ _ _ ?_), ur_cl hO.rcv rfl (e_X10_walk_0 _ _ _ _ ?_), c6.inv⟩
        · simp only [hX.r5, hX.r1, Option.bind_some, cc, c1, c2, ub_fit, ub_n0, cond_true]; rfl
        · simp only [hO.pI, Option.bind_some, mP _ _ c3, mR _ _ c3, g1, b_bit (show j < 32 by omega), g2 j hj, hq, ub_n0, cond_true, c4, hO.r44, c5]; rfl
    · refine ⟨0, f, g, R, _, g, R, ur_cl hX.rcv rfl (e_X9_walk_0 _ _ _ _ ?_), ur_cl hO.rcv rfl (e_X10_walk_0 _ _ _ _ ?_), fls.inv⟩
      · simp only [hX.r5, hX.r1, Option.bind_some, s_canWalk_out hc.oN hc.oL hc.ep hc.er (Or.inr hy)]; rfl
      · simp only [hO.pI, Option.bind_some, mP _ _ h0, t_isRoom hO h0.er, hy]; rfl
  · refine ⟨0, f, g, R, _, g, R, ur_cl hX.rcv rfl (e_X9_walk_0 _ _ _ _ ?_), ur_cl hO.rcv rfl (e_X10_walk_0 _ _ _ _ ?_), fls.inv⟩
    · simp only [hX.r5, hX.r1, Option.bind_some, s_canWalk_out hc.oN hc.oL hc.ep hc.er (Or.inl hx)]; rfl
    · simp only [hO.pI, Option.bind_some, t_isPerson hO h0.ep, hx]; rfl
theorem j_show (h : JV s R f g L L' K K' l V N P E) : JC s R f g (d + 60) 89 205 [.int x, .int y] := by
  have hX := h.oX
  have hc := h.cX
  have hM := h.cM
  have h0 := m_thr hM
  have hO := hM.oM
  have h5 := h.p5
  have h8 := h.r8
  have fls : JV s R (ur_u f 208 0 0) g L L' K K' l V N P E := h.q (QX_x eqT.refl (eqT_u SR_0))
  rcases inR_c x (show P < 2 ^ 31 by omega) with ⟨p, hp, rfl⟩ | hx
  · have mP : ∀ f1 V1, cM s R f1 208 l V1 N P E → ur_call ur_G (d + 59) 180 [.ref 208, .int (nI p)] (s, f1, g, R) = some (1, (s, f1, g, R)) := fun f1 V1 hM => by
      rw [t_isPerson hM.oM hM.ep, inR_in hp (by omega)]; rfl
    rcases inR_c y (show N < 2 ^ 31 by omega) with ⟨j, hj, rfl⟩ | hy
    · have mR : ∀ f1 V1, cM s R f1 208 l V1 N P E → ur_call ur_G (d + 59) 179 [.ref 208, .int (nI j)] (s, f1, g, R) = some (1, (s, f1, g, R)) := fun f1 V1 hM => by
        rw [t_isRoom hM.oM hM.er, inR_in hj (by omega)]; rfl
      obtain ⟨w, hwN, hw8, hw, -⟩ := hM.wh hp
      have cc := c_canShow (d := d + 56) (g := g) hc hp hj hw hw8
      cases hq : shV l V P p j w with
      | false =>
        rw [hq] at cc
        have g1 := m_canShow (d := d + 56) (g := g) h0 hp hj hw hwN
        rw [hq] at g1
        refine ⟨-1, f, g, R, _, g, R, ur_cl hX.rcv rfl (e_X9_show_0 _ _ _ _ ?_), ur_cl hO.rcv rfl (e_X10_show_0 _ _ _ _ ?_), fls.inv⟩
        · simp only [hX.r5, hX.r1, Option.bind_some, cc]; rfl
        · simp only [hO.pI, Option.bind_some, mP _ _ h0, mR _ _ h0, g1]; rfl
      | true =>
        rw [hq] at cc
        obtain ⟨f1, f2, f3, f4, c1, c2, c3, c4, c5, c6⟩ := j_do (d := d + 57) h (V2 := tsV V p j (syV E l V p j (V 0 7))) (v := syV E l V p j (V 0 7)) (v' := syV E l V p j (V 0 7)) (CX := fun f => ur_call ur_G (d + 59) 52 [.ref 33, .ref L, .int (nI p), .int (nI j)] (s, f, g, R)) (CM := fun f => ur_call ur_G (d + 59) 192 [.ref 208, .int (nI p), .int (nI j)] (s, f, g, R)) (fun f1 hc => by
            have := c_tryShow (d := d + 54) (g := g) hc h.lw hp hj hw hw8
            rw [hq] at this
            exact this) (fun f3 hM => m_shows (d := d + 54) (g := g) hM hp hj hw hw8 hq)
        have g1 := m_canShow (d := d + 56) (g := g) c3 hp hj hw hwN
        rw [hq] at g1
        refine ⟨syV E l V p j (V 0 7), f2, g, R, f4, g, R, ur_cl hX.rcv rfl (e_X9_show_0 _ _ _ _ ?_), ur_cl hO.rcv rfl (e_X10_show_0 _ _ _ _ ?_), c6.inv⟩
        · simp only [hX.r5, hX.r1, Option.bind_some, cc, c1, c2]; rfl
        · simp only [hO.pI, Option.bind_some, mP _ _ c3, mR _ _ c3, g1, c4, c5]; rfl
    · refine ⟨-1, f, g, R, _, g, R, ur_cl hX.rcv rfl (e_X9_show_0 _ _ _ _ ?_), ur_cl hO.rcv rfl (e_X10_show_0 _ _ _ _ ?_), fls.inv⟩
      · simp only [hX.r5, hX.r1, Option.bind_some, s_canShow_out hc.oN hc.oL hc.ep hc.er (Or.inr hy)]; rfl
      · simp only [hO.pI, Option.bind_some, mP _ _ h0, t_isRoom hO h0.er, hy]; rfl
  · refine ⟨-1, f, g, R, _, g, R, ur_cl hX.rcv rfl (e_X9_show_0 _ _ _ _ ?_), ur_cl hO.rcv rfl (e_X10_show_0 _ _ _ _ ?_), fls.inv⟩
    · simp only [hX.r5, hX.r1, Option.bind_some, s_canShow_out hc.oN hc.oL hc.ep hc.er (Or.inl hx)]; rfl
    · simp only [hO.pI, Option.bind_some, t_isPerson hO h0.ep, hx]; rfl
theorem j_speak (h : JV s R f g L L' K K' l V N P E) : JC s R f g (d + 60) 90 206 [.int x] := by
  have hX := h.oX
  have hc := h.cX
  have hM := h.cM
  have h0 := m_thr hM
  have hO := hM.oM
  have h5 := h.p5
  have fls : JV s R (ur_u f 208 0 0) g L L' K K' l V N P E := h.q (QX_x eqT.refl (eqT_u SR_0))
  rcases inR_c x (show P < 2 ^ 31 by omega) with ⟨p, hp, rfl⟩ | hx
  · have mP : ∀ f1 V1, cM s R f1 208 l V1 N P E → ur_call ur_G (d + 59) 180 [.ref 208, .int (nI p)] (s, f1, g, R) = some (1, (s, f1, g, R)) := fun f1 V1 hM => by
      rw [t_isPerson hM.oM hM.ep, inR_in hp (by omega)]; rfl
    have cc := c_canSpeak (d := d + 57) (g := g) hc hp
    cases hq : skV l V p with
    | false =>
      rw [hq] at cc
      have g1 := m_canSpeak (d := d + 57) (g := g) h0 hp
      rw [hq] at g1
      refine ⟨0, f, g, R, _, g, R, ur_cl hX.rcv rfl (e_X9_speak_0 _ _ _ ?_), ur_cl hO.rcv rfl (e_X10_speak_0 _ _ _ ?_), fls.inv⟩
      · simp only [hX.r5, hX.r1, Option.bind_some, cc]; rfl
      · simp only [hO.pI, Option.bind_some, mP _ _ h0, g1]; rfl
    | true =>
      rw [hq] at cc
      obtain ⟨f1, f2, f3, f4, c1, c2, c3, c4, c5, c6⟩ := j_do (d := d + 57) h (V2 := tpV V p) (v := ur_b true) (v' := 0) (CX := fun f => ur_call ur_G (d + 59) 55 [.ref 33, .ref L, .int (nI p)] (s, f, g, R)) (CM := fun f => ur_call ur_G (d + 59) 195 [.ref 208, .int (nI p)] (s, f, g, R)) (fun f1 hc => by
          have := c_trySpeak (d := d + 56) (g := g) hc hp
          rw [hq] at this
          exact this) (fun f3 hM => m_speaks (d := d + 58) (g := g) hM hp)
      have g1 := m_canSpeak (d := d + 57) (g := g) c3 hp
      rw [hq] at g1
      refine ⟨1, f2, g, R, f4, g, R, ur_cl hX.rcv rfl (e_X9_speak_0 _ _ _ ?_), ur_cl hO.rcv rfl (e_X10_speak_0 _ _ _ ?_), c6.inv⟩
      · simp only [hX.r5, hX.r1, Option.bind_some, cc, c1, c2]; rfl
      · simp only [hO.pI, Option.bind_some, mP _ _ c3, g1, c4, c5]; rfl
  · refine ⟨0, f, g, R, _, g, R, ur_cl hX.rcv rfl (e_X9_speak_0 _ _ _ ?_), ur_cl hO.rcv rfl (e_X10_speak_0 _ _ _ ?_), fls.inv⟩
    · simp only [hX.r5, hX.r1, Option.bind_some, s_canSpeak_out hc.oN hc.oL hc.ep hx]; rfl
    · simp only [hO.pI, Option.bind_some, t_isPerson hO h0.ep, hx]; rfl
theorem j_burn (h : JV s R f g L L' K K' l V N P E) : JC s R f g (d + 60) 91 207 [.int x] := by
  have hX := h.oX
  have hc := h.cX
  have hM := h.cM
  have h0 := m_thr hM
  have hO := hM.oM
  have h8 := h.r8
  have fls : JV s R (ur_u f 208 0 0) g L L' K K' l V N P E := h.q (QX_x eqT.refl (eqT_u SR_0))
  rcases inR_c x (show N < 2 ^ 31 by omega) with ⟨j, hj, rfl⟩ | hx
  · have cc := c_flamesFrom (d := d + 55) (g := g) hc hj
    by_cases hq : flV l V N P j = 0
    · have g1 := m_canBurn (d := d + 55) (g := g) h0 hj
      rw [decide_eq_false (fun z => z hq)] at g1
      refine ⟨-1, f, g, R, _, g, R, ur_cl hX.rcv rfl (e_X9_burn_0 _ _ _ ?_), ur_cl hO.rcv rfl (e_X10_burn_0 _ _ _ ?_), fls.inv⟩
      · simp only [hX.r5, hX.r1, Option.bind_some, cc, hq]; rfl
      · simp only [hO.pI, Option.bind_some, g1]; rfl
    · have hb := bc_sm (h.wf.fl j)
      obtain ⟨f1, f2, f3, f4, c1, c2, c3, c4, c5, c6⟩ := j_do (d := d + 57) h (V2 := ur_u V 0 6 (V 0 6 ||| flV l V N P j)) (v := bc32 (flV l V N P j)) (v' := bc32 (flV l V N P j)) (CX := fun f => ur_call ur_G (d + 59) 57 [.ref 33, .ref L, .int (nI j)] (s, f, g, R)) (CM := fun f => ((ur_call ur_G (d + 59) 196 [.ref 208, .int (nI j)] (s, f, g, R)).bind fun q4 => ((ur_fR q4.2 208 10 44).bind fun a5 => ((ur_aI q4.2 a5 0 (2 : Int32)).bind fun v6 => ((ur_wI q4.2 a5 0 (2 : Int32) (v6 ||| q4.1)).bind fun m7 => ((ur_call ur_G (d + 59) 142 [.int q4.1] m7).bind fun q8 => some (q8.1, q8.2))))))) (fun f1 hc => by
          have := c_tryBurn (d := d + 54) (g := g) hc hj
          rw [decide_eq_true hq] at this
          exact this) (fun f3 hM => by
          have a2 : ur_aI (s, f3, g, R) (208 + 33) 0 2 = some (f3 (208 + 33) 2) := hM.oM.a33 (show 2 < 29 by decide)
          have w2 : ∀ v, ur_wI (s, f3, g, R) (208 + 33) 0 2 v = some (s, ur_u f3 (208 + 33) 2 v, g, R) := fun v => hM.oM.w33 (show 2 < 29 by decide)
          have t : eqT (TM 208) f3 (ur_u f3 (208 + 33) 2 (f3 (208 + 33) 2 ||| flV l V N P j)) := eqT_u (Or.inl rfl)
          refine ⟨_, ?_, hM.fr t TM_no ?_, t⟩
          · simp only [m_burntBy (d := d + 55) (g := g) hM, hM.oM.r44, a2, w2, t_bits, Option.bind_some, hb]
          · rw [ur_uS rfl]
            exact r_tb hM.hl hM.hn)
      have g1 := m_canBurn (d := d + 55) (g := g) c3 hj
      rw [decide_eq_true hq] at g1
      refine ⟨bc32 (flV l V N P j), f2, g, R, f4, g, R, ur_cl hX.rcv rfl (e_X9_burn_0 _ _ _ ?_), ur_cl hO.rcv rfl (e_X10_burn_0 _ _ _ ?_), c6.inv⟩
      · simp only [hX.r5, hX.r1, Option.bind_some, cc, c1, c2, decide_eq_true (show flV l V N P j ≠ 0 from hq), cond_true]
      · simp only [hO.pI, Option.bind_some, g1, c4]
        exact c5
  · refine ⟨-1, f, g, R, _, g, R, ur_cl hX.rcv rfl (e_X9_burn_0 _ _ _ ?_), ur_cl hO.rcv rfl (e_X10_burn_0 _ _ _ ?_), fls.inv⟩
    · simp only [hX.r5, hX.r1, Option.bind_some, c_flamesFrom_out hc hx]; rfl
    · simp only [hO.pI, Option.bind_some, m_canBurn_out h0 hx]; rfl
end URM6
section URM7
variable {s : List (Nat ⊕ (Nat × Nat))} {f f' l V : Nat → Nat → Int32} {g : Nat → Nat → Int64} {R : Nat → Nat → Option Nat} {L L' K K' d j p P N e z : Nat} {E : Int32 → Int32 → Int32 → Int32 → Int32}
theorem j_undo (h : JV s R f g L L' K K' l V N P E) : JC s R f g (d + 60) 94 209 [] := by
  have hX := h.oX
  have hc := h.cX
  have hM := h.cM
  have hO := hM.oM
  have hP := h.p5
  have hL := hX.eL
  obtain ⟨e, z, he, hz, e9, e10, e50, h6⟩ := h.2.2.2.2.2.1
  have e50' : ur_u f 208 0 0 208 50 = nI z := e50
  by_cases h0 : z = 0
  · subst h0
    refine ⟨0, f, g, R, ur_u f 208 0 0, g, R, ur_cl hX.rcv rfl (e_X9_undo_0 _ _ ?_), ur_cl hO.rcv rfl (e_X10_undo_0 _ _ ?_), (h.q (QX_x eqT.refl (eqT_u SR_0))).inv⟩
    · simp only [hX.I, Option.bind_some, e10]; rfl
    · simp only [hO.pI, hO.I, Option.bind_some, e50']; rfl
  · have he2 : (e + 15) % 16 < 16 := Nat.mod_lt _ (by decide)
    have nz : decide (nI z ≠ 0) = true := decide_eq_true (nI_ne0 (by omega) (by omega))
    obtain ⟨z', rfl⟩ : ∃ z', z = z' + 1 := ⟨z - 1, by omega⟩
    obtain ⟨f1, hf1⟩ : ∃ f1, f1 = ur_u (ur_u f 0 9 (nI ((e + 15) % 16))) 0 10 (nI z') := ⟨_, rfl⟩
    have t1 : eqT (fun a k => a = 0 ∧ (k = 9 ∨ k = 10)) f f1 := by
      rw [hf1]
      exact (eqT_u (T := fun a k => a = 0 ∧ (k = 9 ∨ k = 10)) ⟨rfl, Or.inl rfl⟩).u ⟨rfl, Or.inr rfl⟩
    have g9 : f1 0 9 = nI ((e + 15) % 16) := by rw [hf1, ur_un (by decide), ur_us]
    have g10 : f1 0 10 = nI z' := by rw [hf1, ur_us]
    obtain ⟨f2, c1, c2, c3⟩ := c_copy (d := d + 58) (f := f1) (g := g) hX.now (hX.pastN he2) (Or.inl (by omega))
    have e50'' : ur_u f2 208 0 0 208 50 = nI (z' + 1) := by
      rw [ur_un (by decide), c3.row (fun k z => by unfold TN at z; omega), t1.row (fun k z => by omega)]
      exact e50
    obtain ⟨f3, d1, d2, d3⟩ := t_copies (d := d + 58) (f := ur_u (ur_u f2 208 0 0) 208 50 (nI z')) (g := g) (R := R) (i0 := 29 * z') (j0 := 0) hO.s37 hO.s33 (by omega) (by decide) (by decide) (by decide) (show 208 + 37 ≠ 208 + 33 by decide)
    have tt : eqT (TA L) f f3 := by
      refine (((t1.mono (fun a k q => Or.inl q)).trans (c3.mono (fun a k q => Or.inr (Or.inr (Or.inl (Or.inl q)))))).u ?_ |>.u ?_).trans (d3.mono (fun a k q => ?_))
      · unfold TN TL TM; omega
      · unfold TN TL TM; omega
      · unfold TN TL TM; omega
    have low : ∀ a, a < 208 → f3 a = f2 a := fun a ha => by rw [d3.row (fun k z => by omega), ur_ua (by omega), ur_ua (by omega)]
    have hr := h6 z' (by omega)
    have ei : (e + 16 - (z' + 1) + z') % 16 = (e + 15) % 16 := by omega
    rw [ei] at hr
    have hn : rN (blk f3 33) (l 0 9) N P (f3 (208 + 33)) := by
      refine hr.eqv hP ⟨fun i k q1 q2 q3 => ?_, fun k q1 q2 => ?_⟩ (fun k hk => ?_)
      · show f3 (33 + i) k = f (56 + 6 * ((e + 15) % 16) + i) k
        rw [low _ (by omega)]
        have := c2.1 i k q1 q2 q3
        rw [show blk f2 33 i k = f2 (33 + i) k from rfl] at this
        rw [this]
        exact t1 _ _ (by omega)
      · show f3 (33 + 0) k = f (56 + 6 * ((e + 15) % 16) + 0) k
        rw [low _ (by omega)]
        have := c2.2 k q1 q2
        rw [show blk f2 33 0 k = f2 (33 + 0) k from rfl] at this
        rw [this]
        exact t1 _ _ (by omega)
      · have := d2 k hk
        rw [Nat.zero_add] at this
        rw [this, ur_ua (by decide), ur_ua (by decide), c3.row (fun k z => by unfold TN at z; omega), t1.row (fun k z => by omega)]
    have hM3 : cM s R f3 208 l (blk f3 33) N P E := hM.fr tt (fun a k q1 q2 q => by unfold TA TNL TN TL TM at q; omega) hn
    have hp : paR f3 (l 0 9) N P := by
      refine ⟨(e + 15) % 16, z', he2, by omega, ?_, ?_, ?_, fun i hi => ?_⟩
      · rw [low 0 (by decide), c3.row (fun k z => by unfold TN at z; omega), g9]
      · rw [low 0 (by decide), c3.row (fun k z => by unfold TN at z; omega), g10]
      · rw [d3.row (fun k z => by omega), ur_us]
      · have hi2 := h6 i (by omega)
        have ei : (e + 16 - (z' + 1) + i) % 16 = ((e + 15) % 16 + 16 - z' + i) % 16 := by omega
        rw [ei] at hi2
        have hlt : ((e + 15) % 16 + 16 - z' + i) % 16 < 16 := Nat.mod_lt _ (by decide)
        have key : ∀ a, 39 ≤ a → a < 208 → f3 a = f a := fun a q1 q2 => by
          rw [low a q2, c3.row (fun k z => by unfold TN at z; omega), t1.row (fun k z => by omega)]
        have k245 : f3 245 = f 245 := by
          rw [d3.row (fun k z => by omega), ur_ua (by decide), ur_ua (by decide), c3.row (fun k z => by unfold TN at z; omega), t1.row (fun k z => by omega)]
        generalize ((e + 15) % 16 + 16 - z' + i) % 16 = o at *
        refine hi2.eqv hP ⟨fun a k q1 q2 q3 => ?_, fun k q1 q2 => ?_⟩ (fun k hk => by rw [k245])
        · show f3 (56 + 6 * o + a) k = f (56 + 6 * o + a) k
          rw [key _ (by omega) (by omega)]
        · show f3 (56 + 6 * o + 0) k = f (56 + 6 * o + 0) k
          rw [key _ (by omega) (by omega)]
    refine ⟨1, f2, g, R, f3, g, R, ur_cl hX.rcv rfl (e_X9_undo_0 _ _ ?_), ur_cl hO.rcv rfl (e_X10_undo_0 _ _ ?_), (mk_JV h tt bN_blk hM3 hp).inv⟩
    · have p10 : ur_u f 0 9 (nI ((e + 15) % 16)) 0 10 = nI (z' + 1) := by rw [ur_un (by decide)]; exact e10
      simp only [hX.I, Option.bind_some, e10, nz, cond_true, e9, md3 e he, hX.pI, p10, nI_pred, ← hf1, hX.r5, hX.r8, g9, hX.past he2, c1]
    · have d1' : ur_call ur_G (d + 59) 172 [.ref (208 + 37), .int (nI (29 * z')), .ref (208 + 33), .int 0] (s, ur_u (ur_u f2 208 0 0) 208 50 (nI z'), g, R) = some (0, (s, f3, g, R)) := d1
      simp only [hO.pI, hO.I, Option.bind_some, e50'', nz, cond_true, nI_pred, hO.r48, hO.r44, ur_us, nI_mul29 z' (by omega), d1']
end URM7

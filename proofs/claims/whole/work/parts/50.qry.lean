/-! CALLS THAT ASK, on both sides: the simple ones -/
def JQ (s : List (Nat ⊕ (Nat × Nat))) (R : Nat → Nat → Option Nat) (f : Nat → Nat → Int32) (g : Nat → Nat → Int64) (D k k' : Nat) (as : List Value) : Prop := ∃ v f1 f2, ur_call ur_G D k (.ref 0 :: as) (s, f, g, R) = some (v, (s, f1, g, R)) ∧ ur_call ur_G D k' (.ref 208 :: as) (s, f1, g, R) = some (v, (s, f2, g, R)) ∧ eqT QX f f2
section URK
variable {s : List (Nat ⊕ (Nat × Nat))} {f f' f1 f2 l V V' : Nat → Nat → Int32} {g : Nat → Nat → Int64} {R : Nat → Nat → Option Nat} {L L' K K' D d b j p P N w n k k' : Nat} {U r x y z : Int32} {E : Int32 → Int32 → Int32 → Int32 → Int32} {as : List Value}
theorem jq_mk (h : JV s R f g L L' K K' l V N P E) (v : (Nat → Nat → Int32) → Int32) (hx : ∃ V' f1, reqv V V' ∧ ur_call ur_G D k (.ref 0 :: as) (s, f, g, R) = some (v V', (s, f1, g, R)) ∧ eqT SX f f1) (hm : ∀ V' f1, cM s R f1 208 l V' N P E → ∃ f2, ur_call ur_G D k' (.ref 208 :: as) (s, f1, g, R) = some (v V', (s, f2, g, R)) ∧ eqT (SR 208) f1 f2) : JQ s R f g D k k' as := by
  obtain ⟨V', f1, h1, h2, h3⟩ := hx
  obtain ⟨f2, h4, h5⟩ := hm V' f1 ((h.cM.sx h3).eqv h1)
  exact ⟨v V', f1, f2, h2, h4, QX_x h3 h5⟩
theorem inR_ne (h : inR y n = false) (hk : k < n) (hn : n < 2 ^ 31) : decide (y = nI k) = false := by
  apply decide_eq_false
  intro e
  rw [e, inR_in hk hn] at h
  cases h
theorem inR_c (y : Int32) (hn : n < 2 ^ 31) : (∃ j, j < n ∧ y = nI j) ∨ inR y n = false := by
  cases h : inR y n with
  | true => exact Or.inl (inR_of h hn)
  | false => exact Or.inr rfl
theorem c_uns (h : cX s R f n L l V N P) (hj : j < N) : ur_call ur_G (d + 2) 5 [.ref L, .int (nI j)] (s, f, g, R) = some (ur_b (bt (l 0 9) j), (s, f, g, R)) := by
  rw [s_isUnsaid_in h.oL h.er h.r8 hj, show f L = l 0 from h.bl.1 0 (by decide)]
theorem c_uns_out (h : cX s R f n L l V N P) (hx : inR x N = false) : ur_call ur_G (d + 2) 5 [.ref L, .int x] (s, f, g, R) = some (0, (s, f, g, R)) := s_isUnsaid_out h.oL h.er hx
theorem m_uns (h : cM s R f b l V N P E) (hj : j < N) : ur_call ur_G (d + 2) 181 [.ref b, .int (nI j)] (s, f, g, R) = some (ur_b (bt (l 0 9) j), (s, f, g, R)) := by
  rw [t_isUnsaid_in h.oM h.er h.r8 hj, (h.hl.2.2.1 j hj).2.2, (h.hl.2.2.1 j hj).1]
theorem m_uns_out (h : cM s R f b l V N P E) (hx : inR x N = false) : ur_call ur_G (d + 2) 181 [.ref b, .int x] (s, f, g, R) = some (0, (s, f, g, R)) := t_isUnsaid_out h.oM h.er hx
theorem cX.f0 (h : cX s R f n L l V N P) : f n = V 0 := h.bn 0 (by decide)
theorem cX.l0 (h : cX s R f n L l V N P) : f L = l 0 := h.bl.1 0 (by decide)
theorem wth (y : Int32) {c : Nat} (hc : c + 1 < 2 ^ 31) : ur_call ur_G (d + 1) 140 [.int y, .int 0, .int (nI c)] (s, f, g, R) = some (ur_b (inR y (c + 1)), (s, f, g, R)) := by
  rw [t_within, inR_w hc]
theorem j_host (h : JV s R f g L L' K K' l V N P E) : JQ s R f g (d + 60) 96 213 [.int x] := by
  have hX := h.oX
  have hc := h.cX
  have h8 := h.r8
  rcases inR_c x (show N < 2 ^ 31 by omega) with ⟨j, hj, rfl⟩ | hx
  · refine jq_mk h (fun V => bif bt (l 0 9) j then fsP (fun q => decide (V 1 q = nI j)) P 0 else -1) ⟨V, f, reqv.refl, ur_cl hX.rcv rfl (e_X9_host_0 _ _ _ ?_), eqT.refl⟩ (fun V' f1 hM => ⟨ur_u f1 208 0 0, ur_cl hM.oM.rcv rfl (e_X10_host_0 _ _ _ ?_), eqT_u SR_0⟩)
    · simp only [hX.r1, hX.r5, Option.bind_some, c_uns hc hj, ub_0, s_hostOf hc.oN hc.oL hc.ep hc.p5, hc.bn 1 (by decide)]
      cases bt (l 0 9) j <;> rfl
    · have h0 := m_thr hM
      cases hu : bt (l 0 9) j with
      | false => simp only [hM.oM.pI, Option.bind_some, m_uns h0 hj, hu, ub_0]; rfl
      | true => simp only [hM.oM.pI, Option.bind_some, m_uns h0 hj, hu, ub_0, m_hostOf h0 hj hu]; rfl
  · refine jq_mk h (fun _ => -1) ⟨V, f, reqv.refl, ur_cl hX.rcv rfl (e_X9_host_0 _ _ _ ?_), eqT.refl⟩ (fun V' f1 hM => ⟨ur_u f1 208 0 0, ur_cl hM.oM.rcv rfl (e_X10_host_0 _ _ _ ?_), eqT_u SR_0⟩)
    · simp only [hX.r1, Option.bind_some, c_uns_out hc hx]; rfl
    · simp only [hM.oM.pI, Option.bind_some, m_uns_out (m_thr hM) hx]; rfl
theorem j_frees (h : JV s R f g L L' K K' l V N P E) : JQ s R f g (d + 60) 97 215 [.int x] := by
  have hX := h.oX
  have hc := h.cX
  have h8 := h.r8
  rcases inR_c x (show N < 2 ^ 31 by omega) with ⟨j, hj, rfl⟩ | hx
  · cases hu : bt (l 0 9) j with
    | true =>
      obtain ⟨V', f1, hv, c1, c2⟩ := x_frees (d := d + 53) (g := g) h.xC hj
      refine jq_mk h (fun V => fsT (freeT P j) l P 61 0 V) ⟨V', f1, hv, ur_cl hX.rcv rfl (e_X9_frees_0 _ _ _ ?_), c2⟩ (fun V' f1 hM => ?_)
      · simp only [hX.r1, Option.bind_some, c_uns hc hj, hu, ub_0, c1]; rfl
      · obtain ⟨f2, d1, d2⟩ := m_freesOf (d := d + 53) (g := g) (m_thr hM) hj hu
        refine ⟨f2, ur_cl hM.oM.rcv rfl (e_X10_frees_0 _ _ _ ?_), (eqT_u SR_0).trans d2⟩
        simp only [hM.oM.pI, Option.bind_some, m_uns (m_thr hM) hj, hu, ub_0, d1]; rfl
    | false =>
      refine jq_mk h (fun _ => -1) ⟨V, f, reqv.refl, ur_cl hX.rcv rfl (e_X9_frees_0 _ _ _ ?_), eqT.refl⟩ (fun V' f1 hM => ⟨ur_u f1 208 0 0, ur_cl hM.oM.rcv rfl (e_X10_frees_0 _ _ _ ?_), eqT_u SR_0⟩)
      · simp only [hX.r1, Option.bind_some, c_uns hc hj, hu]; rfl
      · simp only [hM.oM.pI, Option.bind_some, m_uns (m_thr hM) hj, hu]; rfl
  · refine jq_mk h (fun _ => -1) ⟨V, f, reqv.refl, ur_cl hX.rcv rfl (e_X9_frees_0 _ _ _ ?_), eqT.refl⟩ (fun V' f1 hM => ⟨ur_u f1 208 0 0, ur_cl hM.oM.rcv rfl (e_X10_frees_0 _ _ _ ?_), eqT_u SR_0⟩)
    · simp only [hX.r1, Option.bind_some, c_uns_out hc hx]; rfl
    · simp only [hM.oM.pI, Option.bind_some, m_uns_out (m_thr hM) hx]; rfl
theorem j_later (h : JV s R f g L L' K K' l V N P E) : JQ s R f g (d + 60) 99 216 [.int x, .int y] := by
  have h5 := h.p5
  rcases inR_c x (show P < 2 ^ 31 by omega) with ⟨p, hp, rfl⟩ | hx
  · rcases inR_c y (show 61 < 2 ^ 31 by decide) with ⟨k, hk, rfl⟩ | hy
    · obtain ⟨V', f1, hv, c1, c2⟩ := x_later (d := d + 54) (g := g) h.xC hp (show k ≤ 60 by omega)
      exact jq_mk h (fun V => laV l P V k 1 p) ⟨V', f1, hv, c1, c2⟩ (fun V' f1 hM => m_later (d := d + 54) (g := g) hM hp (by omega))
    · exact jq_mk h (fun _ => -1) ⟨V, f, reqv.refl, x_later_out h.xC (Or.inr hy), eqT.refl⟩ (fun V' f1 hM => ⟨_, m_later_out hM (Or.inr hy), eqT_u SR_0⟩)
  · exact jq_mk h (fun _ => -1) ⟨V, f, reqv.refl, x_later_out h.xC (Or.inl hx), eqT.refl⟩ (fun V' f1 hM => ⟨_, m_later_out hM (Or.inl hx), eqT_u SR_0⟩)
theorem inV_eqv (hv : reqv V V') (hp : p < 5) : inV V' p = inV V p := by unfold inV; rw [hv.1 2 p (by decide) (by decide) hp]
theorem j_out (h : JV s R f g L L' K K' l V N P E) : JQ s R f g (d + 60) 100 217 [.int x] := by
  have h5 := h.p5
  rcases inR_c x (show P < 2 ^ 31 by omega) with ⟨p, hp, rfl⟩ | hx
  · cases hin : inV V p with
    | true =>
      obtain ⟨V', f1, hv, c1, c2⟩ := x_out (d := d + 54) (g := g) h.xC hp hin
      have hM := (h.cM.sx c2).eqv hv
      obtain ⟨f2, d1, d2⟩ := m_out (d := d + 54) (g := g) hM hp (by rw [inV_eqv hv (by omega), hin])
      exact ⟨_, f1, f2, c1, d1, QX_x c2 d2⟩
    | false => exact ⟨_, f, _, x_out_out h.xC (Or.inr ⟨p, hp, rfl, hin⟩), m_out_out h.cM (Or.inr ⟨p, hp, rfl, hin⟩), QX_x eqT.refl (eqT_u SR_0)⟩
  · exact ⟨_, f, _, x_out_out h.xC (Or.inl hx), m_out_out h.cM (Or.inl hx), QX_x eqT.refl (eqT_u SR_0)⟩
theorem j_calm (h : JV s R f g L L' K K' l V N P E) : JQ s R f g (d + 60) 101 218 [] := by
  obtain ⟨V', f1, hv, c1, c2⟩ := x_calm (d := d + 54) (g := g) h.xC
  exact jq_mk h (fun V => fsT (calmT P) l P 61 0 V) ⟨V', f1, hv, c1, c2⟩ (fun V' f1 hM => m_calm (d := d + 54) (g := g) hM)
theorem j_room (h : JV s R f g L L' K K' l V N P E) : JQ s R f g (d + 60) 86 201 [.int x, .int y] := by
  have hX := h.oX
  have hc := h.cX
  have h8 := h.r8
  have h5 := h.p5
  rcases inR_c x (show N < 2 ^ 31 by omega) with ⟨j, hj, rfl⟩ | hx
  · have e1 : ur_call ur_G (d + 59) 3 [.ref L, .int (nI j)] (s, f, g, R) = some (1, (s, f, g, R)) := by
      rw [s_hasRoom hc.oL hc.er, inR_in hj (by omega)]; rfl
    rcases inR_c y (show 5 < 2 ^ 31 by decide) with ⟨k, hk, rfl⟩ | hy
    · have mm : ∀ V' f1, cM s R f1 208 l V' N P E → ur_call ur_G (d + 59) 179 [.ref 208, .int (nI j)] (s, ur_u f1 208 0 0, g, R) = some (1, (s, ur_u f1 208 0 0, g, R)) ∧ ur_call ur_G (d + 59) 140 [.int (nI k), .int 0, .int 4] (s, ur_u f1 208 0 0, g, R) = some (1, (s, ur_u f1 208 0 0, g, R)) := fun V' f1 hM => by
        constructor
        · rw [t_isRoom hM.oM (m_thr hM).er, inR_in hj (by omega)]; rfl
        · rw [show (4 : Int32) = nI 4 from rfl, wth _ (by decide), inR_in hk (by decide)]; rfl
      match k, hk, mm with
      | 0, _, mm =>
        refine jq_mk h (fun V => ur_b (bt (l 0 9) j)) ⟨V, f, reqv.refl, ur_cl hX.rcv rfl (e_X9_room_0 _ _ _ _ ?_), eqT.refl⟩ (fun V' f1 hM => ⟨ur_u f1 208 0 0, ur_cl hM.oM.rcv rfl (e_X10_room_0 _ _ _ _ ?_), eqT_u SR_0⟩)
        · simp only [hX.r1, Option.bind_some, e1, hc.oL.I, hc.l0, s_bit _ (show j < 32 by omega)]; rfl
        · have h0 := m_thr hM
          simp only [hM.oM.pI, Option.bind_some, (mm V' f1 hM).1, (mm V' f1 hM).2, hM.oM.r12, hM.oM.a4 (show j < 16 by omega), (h0.hl.2.2.1 j hj).1]
          rw [(h0.hl.2.2.1 j hj).2.2]
          cases decide (l 2 j ≤ 0) <;> rfl
      | 1, _, mm =>
        refine jq_mk h (fun V => l 2 j) ⟨V, f, reqv.refl, ur_cl hX.rcv rfl (e_X9_room_0 _ _ _ _ ?_), eqT.refl⟩ (fun V' f1 hM => ⟨ur_u f1 208 0 0, ur_cl hM.oM.rcv rfl (e_X10_room_0 _ _ _ _ ?_), eqT_u SR_0⟩)
        · simp only [hX.r1, Option.bind_some, e1, hc.oL.r1, hc.oL.a2 (show j < 8 by omega), hc.bl.1 2 (by decide)]; rfl
        · have h0 := m_thr hM
          simp only [hM.oM.pI, Option.bind_some, (mm V' f1 hM).1, (mm V' f1 hM).2, hM.oM.r12, hM.oM.a4 (show j < 16 by omega), (h0.hl.2.2.1 j hj).1]
          rfl
      | 2, _, mm =>
        refine jq_mk h (fun V => l 3 j) ⟨V, f, reqv.refl, ur_cl hX.rcv rfl (e_X9_room_0 _ _ _ _ ?_), eqT.refl⟩ (fun V' f1 hM => ⟨ur_u f1 208 0 0, ur_cl hM.oM.rcv rfl (e_X10_room_0 _ _ _ _ ?_), eqT_u SR_0⟩)
        · simp only [hX.r1, Option.bind_some, e1, hc.oL.r2, hc.oL.a3 (show j < 8 by omega), hc.bl.1 3 (by decide)]; rfl
        · have h0 := m_thr hM
          simp only [hM.oM.pI, Option.bind_some, (mm V' f1 hM).1, (mm V' f1 hM).2, hM.oM.r13, hM.oM.a5 (show j < 16 by omega), (h0.hl.2.2.1 j hj).2.1]
          rfl
      | 3, _, mm =>
        refine jq_mk h (fun V => ur_b (bt (V 0 6) j)) ⟨V, f, reqv.refl, ur_cl hX.rcv rfl (e_X9_room_0 _ _ _ _ ?_), eqT.refl⟩ (fun V' f1 hM => ⟨ur_u f1 208 0 0, ur_cl hM.oM.rcv rfl (e_X10_room_0 _ _ _ _ ?_), eqT_u SR_0⟩)
        · simp only [hX.r1, hX.r5, Option.bind_some, e1, hc.oN.I, hc.f0, s_bit _ (show j < 32 by omega)]; rfl
        · have h0 := m_thr hM
          have a2 : ur_aI (s, ur_u f1 208 0 0, g, R) (208 + 33) 0 2 = some (ur_u f1 208 0 0 (208 + 33) 2) := hM.oM.a33 (show 2 < 29 by decide)
          simp only [hM.oM.pI, Option.bind_some, (mm V' f1 hM).1, (mm V' f1 hM).2, hM.oM.r44, a2, h0.hn.1.2.2.1, b_bit (show j < 32 by omega)]
          rfl
      | 4, _, mm =>
        refine jq_mk h (fun V => sB (fun p => decide (V 1 p = nI j)) P) ⟨V, f, reqv.refl, ur_cl hX.rcv rfl (e_X9_room_0 _ _ _ _ ?_), eqT.refl⟩ (fun V' f1 hM => ⟨ur_u f1 208 0 0, ur_cl hM.oM.rcv rfl (e_X10_room_0 _ _ _ _ ?_), eqT_u SR_0⟩)
        · simp only [hX.r1, hX.r5, Option.bind_some, e1, s_personsIn hc.oN hc.oL hc.ep hc.p5, hc.bn 1 (by decide)]; rfl
        · have h0 := m_thr hM
          simp only [hM.oM.pI, Option.bind_some, (mm V' f1 hM).1, (mm V' f1 hM).2, t_whoIn h0.oM h0.ep h0.p5]
          rw [sB_congr (Q := fun q => decide (V' 1 q = nI j)) (fun q hq => by rw [(h0.hn.2.1 q hq).1])]
          rfl
    · refine jq_mk h (fun V => -1) ⟨V, f, reqv.refl, ur_cl hX.rcv rfl (e_X9_room_0 _ _ _ _ ?_), eqT.refl⟩ (fun V' f1 hM => ⟨ur_u f1 208 0 0, ur_cl hM.oM.rcv rfl (e_X10_room_0 _ _ _ _ ?_), eqT_u SR_0⟩)
      · simp only [hX.r1, Option.bind_some, e1, show decide (y = (0 : Int32)) = false from inR_ne (k := 0) hy (by decide) (by decide), show decide (y = (1 : Int32)) = false from inR_ne (k := 1) hy (by decide) (by decide), show decide (y = (2 : Int32)) = false from inR_ne (k := 2) hy (by decide) (by decide), show decide (y = (3 : Int32)) = false from inR_ne (k := 3) hy (by decide) (by decide), show decide (y = (4 : Int32)) = false from inR_ne (k := 4) hy (by decide) (by decide)]
        rfl
      · simp only [hM.oM.pI, Option.bind_some, t_isRoom hM.oM (m_thr hM).er, inR_in hj (show N < 2 ^ 31 by omega), show (4 : Int32) = nI 4 from rfl, wth y (show 4 + 1 < 2 ^ 31 by decide), hy]
        rfl
  · refine jq_mk h (fun V => -1) ⟨V, f, reqv.refl, ur_cl hX.rcv rfl (e_X9_room_0 _ _ _ _ ?_), eqT.refl⟩ (fun V' f1 hM => ⟨ur_u f1 208 0 0, ur_cl hM.oM.rcv rfl (e_X10_room_0 _ _ _ _ ?_), eqT_u SR_0⟩)
    · simp only [hX.r1, Option.bind_some, s_hasRoom hc.oL hc.er, hx]; rfl
    · simp only [hM.oM.pI, Option.bind_some, t_isRoom hM.oM (m_thr hM).er, hx]; rfl
end URK

/-! CALLS THAT ASK: lines, fire, halls, hinges -/
section URK5
variable {s : List (Nat ⊕ (Nat × Nat))} {f f' f1 f2 l V V' : Nat → Nat → Int32} {g : Nat → Nat → Int64} {R : Nat → Nat → Option Nat} {L L' K K' D d b j p P N w n k k' : Nat} {U r x y z : Int32} {E : Int32 → Int32 → Int32 → Int32 → Int32} {as : List Value}
theorem m_unsaidBy (h : cM s R f b l V N P E) : ur_call ur_G (d + 2) 229 [.ref b, .int x] (s, f, g, R) = some (bes (l 3) N x &&& l 0 9, (s, f, g, R)) := by
  have h8 := h.r8
  have hO := h.oM
  have a0 : ur_aI (s, f, g, R) (b + 2) 0 0 = some (f (b + 2) 0) := hO.a2 (show 0 < 6 by decide)
  have e := bes_itr (D := l 3) (o := l 0 9) x 0 N
  rw [show (0 : Int32) ||| (bes (l 3) N x &&& l 0 9) = bes (l 3) N x &&& l 0 9 from b_ext (fun i _ => by rw [b_or, b_0, Bool.false_or])] at e
  rw [← e]
  refine ur_cl hO.rcv rfl (e_X10_unsaidBy_0 _ _ _ ?_)
  refine itr_loop (step := fun i (y : Int32) => bif bt x i then y ||| (l 3 i &&& l 0 9) else y) (n := N) (Fn := fun i y => ur_at ur_G (d + 1) 229 (4, [some (.ref b), some (.int x), some (.int y), some (.int (nI i))], [], (s, f, g, R))) (fun i y hi h' => ?_) N 0 (Nat.le_refl N) ?_
  · refine e_X10_unsaidBy_4 _ _ _ _ _ ?_
    simp only [hO.r10, a0, h.er, Option.bind_some, d_le (show N < 2 ^ 31 by omega) (show i < 2 ^ 31 by omega), decide_eq_false (show ¬ N ≤ i by omega), cond_false, b_bit (show i < 32 by omega), ub_n1, hO.r13, hO.a5 (show i < 16 by omega), t_unsaids hO h.er h.r8, r_uns h.hl, (h.hl.2.2.1 i hi).2.1, nI_1, i_or0]
    cases hb : bt x i with
    | true => rw [hb] at h'; exact h'
    | false => rw [hb] at h'; exact h'
  · refine e_X10_unsaidBy_4 _ _ _ _ _ ?_
    simp only [hO.r10, a0, h.er, Option.bind_some, d_le (show N < 2 ^ 31 by omega) (show N < 2 ^ 31 by omega), Nat.le_refl, decide_true, cond_true]
theorem un_sm (h : wfV l V N P) : sm8 (l 0 9) := by
  obtain ⟨f, b, S, hl, hn⟩ := h
  exact fun i h1 h2 => hl.2.2.2.1 i (by have := hl.1.1; omega) h2
theorem j_lines (h : JV s R f g L L' K K' l V N P E) : JQ s R f g (d + 60) 114 230 [.int x] := by
  have hX := h.oX
  have hc := h.cX
  have h8 := h.r8
  have hw := h.wf
  rcases inR_c x (show N < 2 ^ 31 by omega) with ⟨j, hj, rfl⟩ | hx
  · refine jq_mk h (fun V => bif bt (opX l V) j then cnB (spX (l 3) N ((1 : Int32) <<< (nI j &&& 31)) (opX l V)) + cnB (bes (l 3) N (spX (l 3) N ((1 : Int32) <<< (nI j &&& 31)) (opX l V)) &&& l 0 9) else -1) ⟨V, f, reqv.refl, ur_cl hX.rcv rfl (e_X9_lines_0 _ _ _ ?_), eqT.refl⟩ (fun V' f1 hM => ⟨ur_u f1 208 0 0, ur_cl hM.oM.rcv rfl (e_X10_lines_0 _ _ _ ?_), eqT_u SR_0⟩)
    · have hsp : sb (spX (l 3) N ((1 : Int32) <<< (nI j &&& 31)) (opX l V)) (opX l V) := spX_al
      have hd := cn_dis (x := spX (l 3) N ((1 : Int32) <<< (nI j &&& 31)) (opX l V)) (y := bes (l 3) N (spX (l 3) N ((1 : Int32) <<< (nI j &&& 31)) (opX l V)) &&& l 0 9) (fun i hi => by
        cases q : bt (spX (l 3) N ((1 : Int32) <<< (nI j &&& 31)) (opX l V)) i with
        | false => rfl
        | true =>
          have := hsp i (by omega) q
          rw [op_bt hw (by omega)] at this
          rw [b_and]
          cases q2 : bt (l 0 9) i with
          | false => rw [Bool.and_false, Bool.and_false]
          | true => rw [q2] at this; simp at this)
      have hb := bc_sm (sm8_or (sm8_sb hsp (op_sm hw)) (sm8_and2 (x := bes (l 3) N (spX (l 3) N ((1 : Int32) <<< (nI j &&& 31)) (opX l V))) (un_sm hw)))
      simp only [x_isOpen hX hc hj, Option.bind_some, ub_n0, hX.r1, x_open hX hc, c_spread hc, c_beside hc, hc.oL.I, hc.l0, u_bc, hb, hd]
      cases bt (opX l V) j <;> rfl
    · have h0 := m_thr hM
      simp only [hM.oM.pI, Option.bind_some, m_isOpen h0 hj, ub_n0, m_open h0, m_spreads h0 (op_sm h0.wf), t_bits, m_unsaidBy h0]
      cases bt (opX l V') j <;> rfl
  · refine jq_mk h (fun V => -1) ⟨V, f, reqv.refl, ur_cl hX.rcv rfl (e_X9_lines_0 _ _ _ ?_), eqT.refl⟩ (fun V' f1 hM => ⟨ur_u f1 208 0 0, ur_cl hM.oM.rcv rfl (e_X10_lines_0 _ _ _ ?_), eqT_u SR_0⟩)
    · simp only [x_isOpen_out hX hc hx, Option.bind_some]; rfl
    · simp only [hM.oM.pI, Option.bind_some, m_isOpen_out (m_thr hM) hx]; rfl
theorem j_fire (h : JV s R f g L L' K K' l V N P E) : JQ s R f g (d + 60) 115 231 [.int x, .int y] := by
  have hX := h.oX
  have hc := h.cX
  have h8 := h.r8
  have hw := h.wf
  rcases inR_c x (show N < 2 ^ 31 by omega) with ⟨j, hj, rfl⟩ | hx
  · rcases inR_c y (show 2 < 2 ^ 31 by decide) with ⟨k, hk, rfl⟩ | hy
    · have mk : ∀ V' f1, cM s R f1 208 l V' N P E → ur_call ur_G (d + 59) 140 [.int (nI k), .int 0, .int 1] (s, ur_u f1 208 0 0, g, R) = some (1, (s, ur_u f1 208 0 0, g, R)) := fun V' f1 hM => by
        rw [show (1 : Int32) = nI 1 from rfl, wth _ (by decide), inR_in hk (by decide)]; rfl
      match k, hk, mk with
      | 0, _, mk =>
        refine jq_mk h (fun V => bif decide (flV l V N P j ≠ 0) then cnB (flV l V N P j) else -1) ⟨V, f, reqv.refl, ur_cl hX.rcv rfl (e_X9_fire_0 _ _ _ _ ?_), eqT.refl⟩ (fun V' f1 hM => ⟨ur_u f1 208 0 0, ur_cl hM.oM.rcv rfl (e_X10_fire_0 _ _ _ _ ?_), eqT_u SR_0⟩)
        · simp only [hX.r5, hX.r1, Option.bind_some, c_flamesFrom hc hj, u_bc, bc_sm (hw.fl j)]
          by_cases h0 : flV l V N P j = 0
          · rw [decide_eq_true h0, decide_eq_false (show ¬ flV l V N P j ≠ 0 from fun z => z h0)]; rfl
          · rw [decide_eq_false h0, decide_eq_true (show flV l V N P j ≠ 0 from h0)]; rfl
        · have h0 := m_thr hM
          simp only [hM.oM.pI, Option.bind_some, mk V' f1 hM, m_canBurn h0 hj, ub_n0, m_burntBy h0, t_bits]
          cases decide (flV l V' N P j ≠ 0) <;> rfl
      | 1, _, mk =>
        refine jq_mk h (fun V => bif decide (flV l V N P j ≠ 0) then cnB (bes (l 3) N (flV l V N P j) &&& l 0 9) else -1) ⟨V, f, reqv.refl, ur_cl hX.rcv rfl (e_X9_fire_0 _ _ _ _ ?_), eqT.refl⟩ (fun V' f1 hM => ⟨ur_u f1 208 0 0, ur_cl hM.oM.rcv rfl (e_X10_fire_0 _ _ _ _ ?_), eqT_u SR_0⟩)
        · simp only [hX.r5, hX.r1, Option.bind_some, c_flamesFrom hc hj, c_beside hc, hc.oL.I, hc.l0, u_bc, bc_sm (sm8_and2 (x := bes (l 3) N (flV l V N P j)) (un_sm hw))]
          by_cases h0 : flV l V N P j = 0
          · rw [decide_eq_true h0, decide_eq_false (show ¬ flV l V N P j ≠ 0 from fun z => z h0)]; rfl
          · rw [decide_eq_false h0, decide_eq_true (show flV l V N P j ≠ 0 from h0)]; rfl
        · have h0 := m_thr hM
          simp only [hM.oM.pI, Option.bind_some, mk V' f1 hM, m_canBurn h0 hj, ub_n0, m_burntBy h0, m_unsaidBy h0, t_bits]
          cases decide (flV l V' N P j ≠ 0) <;> rfl
    · refine jq_mk h (fun V => -1) ⟨V, f, reqv.refl, ur_cl hX.rcv rfl (e_X9_fire_0 _ _ _ _ ?_), eqT.refl⟩ (fun V' f1 hM => ⟨ur_u f1 208 0 0, ur_cl hM.oM.rcv rfl (e_X10_fire_0 _ _ _ _ ?_), eqT_u SR_0⟩)
      · have e := inR_w (z := 1) (by decide) y
        rw [hy, i_le1 (z := 1) (by decide)] at e
        have e1 : decide (y ≤ (1 : Int32)) = !decide (nI (1 + 1) ≤ y) := by
          rw [← i_le1 (z := 1) (by decide)]
          by_cases q : y ≤ (1 : Int32)
          · rw [decide_eq_true q, decide_eq_false (show ¬ nI 1 < y from Int32.not_lt.mpr q)]; rfl
          · rw [decide_eq_false q, decide_eq_true (show nI 1 < y from Int32.not_le.mp q)]; rfl
        simp only [hX.r5, hX.r1, Option.bind_some, c_flamesFrom hc hj, e1]
        cases decide (flV l V N P j = 0) with
        | true => rfl
        | false =>
          cases q1 : decide (y < 0) with
          | true => rfl
          | false => rw [q1] at e; rw [show (!decide (nI (1 + 1) ≤ y)) = false from by simpa using e]; rfl
      · simp only [hM.oM.pI, Option.bind_some, show (1 : Int32) = nI 1 from rfl, wth y (show 1 + 1 < 2 ^ 31 by decide), hy]
        rfl
  · refine jq_mk h (fun V => -1) ⟨V, f, reqv.refl, ur_cl hX.rcv rfl (e_X9_fire_0 _ _ _ _ ?_), eqT.refl⟩ (fun V' f1 hM => ⟨ur_u f1 208 0 0, ur_cl hM.oM.rcv rfl (e_X10_fire_0 _ _ _ _ ?_), eqT_u SR_0⟩)
    · simp only [hX.r5, hX.r1, Option.bind_some, c_flamesFrom_out hc hx]; rfl
    · simp only [hM.oM.pI, Option.bind_some, show (1 : Int32) = nI 1 from rfl, wth y (show 1 + 1 < 2 ^ 31 by decide), m_canBurn_out (m_thr hM) hx]
      cases inR y (1 + 1) <;> rfl
theorem m_pieces (h : cM s R f b l V N P E) {o : Int32} (ho : sm8 o) : ∀ (m : Nat) (x : Int32) (n : Nat), sb x o → cN x 8 ≤ m → n + m < 100 → ur_at ur_G (d + 2) 226 (4, [some (.ref b), some (.int o), some (.int x), some (.int (nI n))], [], (s, f, g, R)) = some (nI (n + pcV (l 3) N o m x), (s, f, g, R))
  | 0, x, n, hs, hcn, hn => by
    have h0 := cN_zero (sm8_sb hs ho) (by omega)
    refine e_X10_pieces_4 _ _ _ _ _ ?_
    rw [decide_eq_true h0]
    rfl
  | m + 1, x, n, hs, hcn, hn => by
    refine e_X10_pieces_4 _ _ _ _ _ ?_
    have e : pcV (l 3) N o (m + 1) x = bif decide (x = 0) then 0 else 1 + pcV (l 3) N o m (x &&& (spX (l 3) N ((1 : Int32) <<< (fsB x 8 0 &&& 31)) o ^^^ (-1))) := rfl
    rw [e]
    by_cases h0 : x = 0
    · rw [decide_eq_true h0]
      rfl
    · obtain ⟨j, hj, e1, e2, -⟩ := x_ne0 (sm8_sb hs ho) h0
      have st := pc_step (D := l 3) (N := N) ho hs hj e2
      have ih := m_pieces h ho m (x &&& (spX (l 3) N ((1 : Int32) <<< (nI j &&& 31)) o ^^^ (-1))) (n + 1) (sb_tr st.1 hs) (by omega) (by omega)
      rw [decide_eq_false h0, cond_false, cond_false, e1]
      simp only [t_firstOf, e1, Option.bind_some, m_spreads h ho, nI_1]
      rw [ih, Nat.add_assoc]
theorem x_halls (hX : oX s R L L' K K') (hc : cX s R f 33 L l V N P) (hw : wfV l V N P) : ∀ (k j : Nat) (x : Int32) (m n : Nat), k + j = N → sb x (opX l V) → clo (l 3) N (opX l V) x → (∀ i, i < j → bt x i = false) → cN x 8 ≤ m → ur_at ur_G (d + 3) 111 (9, [some (.ref 0), some (.int x), some (.int (nI n)), some (.int (nI j))], [], (s, f, g, R)) = some (nI (n + pcV (l 3) N (opX l V) m x), (s, f, g, R))
  | 0, j, x, m, n, hk, hs, hcl, hlow, hcn => by
    have h8 := hc.r8
    have h0 : x = 0 := by
      apply b_ext
      intro i hi
      rw [b_0]
      cases hb : bt x i with
      | false => rfl
      | true =>
        have := op_N hw hi (hs i hi hb)
        rw [hlow i (by omega)] at hb
        cases hb
    refine e_X9_halls_9 _ _ _ _ _ ?_
    simp only [hX.r1, hc.oL.I, hc.er, Option.bind_some, d_le (show N < 2 ^ 31 by omega) (show j < 2 ^ 31 by omega), decide_eq_true (show N ≤ j by omega), cond_true]
    rw [h0, pcV_0]
    rfl
  | k + 1, j, x, m, n, hk, hs, hcl, hlow, hcn => by
    have h8 := hc.r8
    have osm := op_sm hw
    refine e_X9_halls_9 _ _ _ _ _ ?_
    simp only [hX.r1, hc.oL.I, hc.er, Option.bind_some, d_le (show N < 2 ^ 31 by omega) (show j < 2 ^ 31 by omega), decide_eq_false (show ¬ N ≤ j by omega), cond_false, s_bit _ (show j < 32 by omega), ub_n1, c_spread hc, nI_1]
    cases hb : bt x j with
    | false =>
      simp only [Bool.not_false, cond_true]
      exact x_halls hX hc hw k (j + 1) x m n (by omega) hs hcl (fun i hi => by
        by_cases hij : i = j
        · rw [hij]; exact hb
        · exact hlow i (by omega)) hcn
    | true =>
      simp only [Bool.not_true, cond_false]
      have h0 : x ≠ 0 := fun z => by rw [z, b_0] at hb; cases hb
      obtain ⟨i, hi, e1, e2, e3⟩ := x_ne0 (sm8_sb hs osm) h0
      have hij : i = j := by
        rcases Nat.lt_trichotomy i j with q | q | q
        · rw [hlow i q] at e2; cases e2
        · exact q
        · rw [e3 j q] at hb; cases hb
      subst hij
      have st := pc_step (D := l 3) (N := N) osm hs hi e2
      have hpos : 0 < m := by
        have := Nat.lt_of_le_of_lt (Nat.zero_le _) st.2
        omega
      obtain ⟨m', rfl⟩ : ∃ m', m = m' + 1 := ⟨m - 1, by omega⟩
      have hone : sb (((1 : Int32) <<< (nI i &&& 31)) &&& opX l V) x := fun q hq h' => by
        have := b_an1 h'
        rw [b_one (by omega) hq] at this
        rw [of_decide_eq_true this]
        exact e2
      have cC := spX_clo (D := l 3) (st := (1 : Int32) <<< (nI i &&& 31)) h8 osm
      rw [spX_left h8 osm hs hcl hone]
      have e : pcV (l 3) N (opX l V) (m' + 1) x = bif decide (x = 0) then 0 else 1 + pcV (l 3) N (opX l V) m' (x &&& (spX (l 3) N ((1 : Int32) <<< (fsB x 8 0 &&& 31)) (opX l V) ^^^ (-1))) := rfl
      rw [e, decide_eq_false h0, cond_false, e1, ← Nat.add_assoc]
      refine x_halls hX hc hw k (i + 1) _ m' (n + 1) (by omega) (sb_tr st.1 hs) (fun a ha hba q hq h' => ?_) (fun a ha => ?_) (by omega)
      · have ha1 := b_an1 hba
        have ha2 := b_an2 hba
        rw [b_not (by omega)] at ha2
        have hqx := hcl a ha ha1 q hq h'
        have hqN := op_N hw hq (b_an2 h')
        refine b_an hqx ?_
        rw [b_not hq]
        cases hC : bt (spX (l 3) N ((1 : Int32) <<< (nI i &&& 31)) (opX l V)) q with
        | false => rfl
        | true =>
          have := cC q hqN hC a (by omega) (b_an (by rw [wf_sym hw hqN ha]; exact b_an1 h') (hs a (by omega) ha1))
          rw [this] at ha2
          cases ha2
      · by_cases hai : a = i
        · have : bt (spX (l 3) N ((1 : Int32) <<< (nI i &&& 31)) (opX l V)) i = true := spX_st i (by omega) (b_an (by rw [b_one (by omega) (by omega)]; exact decide_eq_true rfl) (hs i (by omega) e2))
          rw [hai, b_and, b_not (by omega), this, Bool.not_true, Bool.and_false]
        · rw [b_and, hlow a (by omega), Bool.false_and]
theorem j_halls (h : JV s R f g L L' K K' l V N P E) : JQ s R f g (d + 60) 111 227 [] := by
  have hX := h.oX
  have hc := h.cX
  have hw := h.wf
  refine jq_mk h (fun V => nI (0 + pcV (l 3) N (opX l V) 8 (opX l V))) ⟨V, f, reqv.refl, ur_cl hX.rcv rfl (e_X9_halls_0 _ _ ?_), eqT.refl⟩ (fun V' f1 hM => ⟨ur_u f1 208 0 0, ur_cl hM.oM.rcv rfl (e_X10_halls_0 _ _ ?_), eqT_u SR_0⟩)
  · simp only [x_open hX hc, Option.bind_some]
    exact x_halls (d := d + 56) hX hc hw N 0 (opX l V) 8 0 rfl (sb_rf _) (fun a ha hba q hq h' => b_an2 h') (fun i hi => absurd hi (by omega)) (cN_le _ 8)
  · have h0 := m_thr hM
    have e : ur_call ur_G (d + 59) 226 [.ref 208, .int (opX l V')] (s, ur_u f1 208 0 0, g, R) = some (nI (0 + pcV (l 3) N (opX l V') 8 (opX l V')), (s, ur_u f1 208 0 0, g, R)) := by
      refine ur_cl h0.oM.rcv rfl (e_X10_pieces_0 _ _ _ ?_)
      exact m_pieces (d := d + 56) h0 (op_sm h0.wf) 8 (opX l V') 0 (sb_rf _) (cN_le _ 8) (by decide)
    simp only [hM.oM.pI, Option.bind_some, m_open h0, e]
theorem j_hinges (h : JV s R f g L L' K K' l V N P E) : JQ s R f g (d + 60) 112 228 [] := by
  have hX := h.oX
  have hc := h.cX
  have hw := h.wf
  have h8 := h.r8
  refine jq_mk h (fun V => sB (fun j => bt (opX l V) j && hgV (l 3) N (opX l V) j) N) ⟨V, f, reqv.refl, ur_cl hX.rcv rfl (e_X9_hinges_0 _ _ ?_), eqT.refl⟩ (fun V' f1 hM => ⟨ur_u f1 208 0 0, ur_cl hM.oM.rcv rfl (e_X10_hinges_0 _ _ ?_), eqT_u SR_0⟩)
  · simp only [x_open hX hc, Option.bind_some]
    refine sB_loop (P := fun j => bt (opX l V) j && hgV (l 3) N (opX l V) j) (n := N) (Fn := fun j x => ur_at ur_G (d + 59) 112 (9, [some (.ref 0), some (.int (opX l V)), some (.int x), some (.int (nI j))], [], (s, f, g, R))) (fun j x hj h' => ?_) ?_
    · refine e_X9_hinges_9 _ _ _ _ _ ?_
      have cu : ur_call ur_G (d + 59) 113 [.ref 0, .int (nI j), .int (opX l V)] (s, f, g, R) = some (ur_b (hgV (l 3) N (opX l V) j), (s, f, g, R)) := by
        refine ur_cl hX.rcv rfl (e_X9_cuts_0 _ _ _ _ ?_)
        simp only [hX.r1, Option.bind_some, c_spread hc, u_lo]
        unfold hgV
        cases decide (spX (l 3) N ((spX (l 3) N ((1 : Int32) <<< (nI j &&& 31)) (opX l V) &&& (((1 : Int32) <<< (nI j &&& 31)) ^^^ (-1))) &&& (-(spX (l 3) N ((1 : Int32) <<< (nI j &&& 31)) (opX l V) &&& (((1 : Int32) <<< (nI j &&& 31)) ^^^ (-1))))) (spX (l 3) N ((1 : Int32) <<< (nI j &&& 31)) (opX l V) &&& (((1 : Int32) <<< (nI j &&& 31)) ^^^ (-1))) = (spX (l 3) N ((1 : Int32) <<< (nI j &&& 31)) (opX l V) &&& (((1 : Int32) <<< (nI j &&& 31)) ^^^ (-1)))) <;> rfl
      simp only [hX.r1, hc.oL.I, hc.er, Option.bind_some, d_le (show N < 2 ^ 31 by omega) (show j < 2 ^ 31 by omega), decide_eq_false (show ¬ N ≤ j by omega), cond_false, s_bit _ (show j < 32 by omega), ub_n1, cu, ub_0, nI_1]
      cases hb : bt (opX l V) j with
      | false => rw [hb] at h'; simp only [Bool.false_and, cond_false, i_or0] at h'; exact h'
      | true =>
        rw [hb] at h'
        cases hg : hgV (l 3) N (opX l V) j with
        | true => rw [hg] at h'; exact h'
        | false => rw [hg] at h'; simp only [Bool.and_false, cond_false, i_or0] at h'; exact h'
    · refine e_X9_hinges_9 _ _ _ _ _ ?_
      simp only [hX.r1, hc.oL.I, hc.er, Option.bind_some, d_le (show N < 2 ^ 31 by omega) (show N < 2 ^ 31 by omega), Nat.le_refl, decide_true, cond_true]
  · have h0 := m_thr hM
    have hO := h0.oM
    have osm := op_sm h0.wf
    have a0 : ur_aI (s, ur_u f1 208 0 0, g, R) (208 + 2) 0 0 = some (ur_u f1 208 0 0 (208 + 2) 0) := hO.a2 (show 0 < 6 by decide)
    simp only [hO.pI, Option.bind_some]
    refine sB_loop (P := fun j => bt (opX l V') j && hgV (l 3) N (opX l V') j) (n := N) (Fn := fun j x => ur_at ur_G (d + 59) 228 (9, [some (.ref 208), some (.int x), some (.int (nI j))], [], (s, ur_u f1 208 0 0, g, R))) (fun j x hj h' => ?_) ?_
    · refine e_X10_hinges_9 _ _ _ _ ?_
      obtain ⟨o, ho⟩ : ∃ o, o = spX (l 3) N ((1 : Int32) <<< (nI j &&& 31)) (opX l V') &&& (((1 : Int32) <<< (nI j &&& 31)) ^^^ (-1)) := ⟨_, rfl⟩
      have om : sm8 o := by rw [ho]; exact sm8_and (sm8_sb spX_al osm)
      have e : ur_call ur_G (d + 59) 226 [.ref 208, .int o] (s, ur_u f1 208 0 0, g, R) = some (nI (0 + pcV (l 3) N o 8 o), (s, ur_u f1 208 0 0, g, R)) := by
        refine ur_cl h0.oM.rcv rfl (e_X10_pieces_0 _ _ _ ?_)
        exact m_pieces (d := d + 56) h0 om 8 o 0 (sb_rf _) (cN_le _ 8) (by decide)
      have hh := pc_hg (D := l 3) (N := N) om
      simp only [hO.r10, a0, h0.er, Option.bind_some, d_le (show N < 2 ^ 31 by omega) (show j < 2 ^ 31 by omega), decide_eq_false (show ¬ N ≤ j by omega), cond_false, m_isOpen h0 hj, ub_n0, m_open h0, m_spreads h0 osm, ← ho, e, Nat.zero_add, hh, nI_1]
      unfold hgV at h'
      rw [← ho] at h'
      cases hb : bt (opX l V') j with
      | false => rw [hb] at h'; simp only [Bool.false_and, cond_false, i_or0] at h'; exact h'
      | true =>
        rw [hb] at h'
        cases hg : decide (spX (l 3) N (o &&& (-o)) o = o) with
        | true => rw [hg] at h'; exact h'
        | false => rw [hg] at h'; exact h'
    · refine e_X10_hinges_9 _ _ _ _ ?_
      simp only [hO.r10, a0, h0.er, Option.bind_some, d_le (show N < 2 ^ 31 by omega) (show N < 2 ^ 31 by omega), Nat.le_refl, decide_true, cond_true]
end URK5

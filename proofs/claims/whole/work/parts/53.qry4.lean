/-! CALLS THAT ASK: where one can go -/
def opX (l V : Nat → Nat → Int32) : Int32 := ((((1 : Int32) <<< (l 0 10 &&& 31)) - 1) &&& (l 0 9 ^^^ (-1))) &&& (V 0 6 ^^^ (-1))
def fsS (x : Int32) (n j : Nat) : Prop := (fsB x n j = -1 ∧ ∀ i, j ≤ i → i < j + n → bt x i = false) ∨ ∃ z, j ≤ z ∧ z < j + n ∧ fsB x n j = nI z ∧ bt x z = true ∧ ∀ i, j ≤ i → i < z → bt x i = false
theorem fsB_spec (x : Int32) : ∀ n j, fsS x n j
  | 0, j => Or.inl ⟨rfl, fun i h1 h2 => absurd h2 (by omega)⟩
  | n + 1, j => by
    have e : fsB x (n + 1) j = bif bt x j then nI j else fsB x n (j + 1) := rfl
    unfold fsS
    rw [e]
    cases h : bt x j with
    | true => exact Or.inr ⟨j, Nat.le_refl j, by omega, rfl, h, fun i h1 h2 => absurd h2 (by omega)⟩
    | false =>
      simp only [cond_false]
      rcases fsB_spec x n (j + 1) with ⟨a, b⟩ | ⟨z, a, b, c, d, e⟩
      · refine Or.inl ⟨a, fun i h1 h2 => ?_⟩
        by_cases hij : i = j
        · rw [hij]; exact h
        · exact b i (by omega) (by omega)
      · refine Or.inr ⟨z, by omega, by omega, c, d, fun i h1 h2 => ?_⟩
        by_cases hij : i = j
        · rw [hij]; exact h
        · exact e i (by omega) h2
/-- how many pieces -/
def pcV (D : Nat → Int32) (N : Nat) (o : Int32) : Nat → Int32 → Nat
  | 0, _ => 0
  | m + 1, x => bif decide (x = 0) then 0 else 1 + pcV D N o m (x &&& (spX D N ((1 : Int32) <<< (fsB x 8 0 &&& 31)) o ^^^ (-1)))
section URG3
variable {D : Nat → Int32} {N m j : Nat} {al x z o st : Int32}
theorem spX_clo (hN : N ≤ 8) (ha : sm8 al) : clo D N al (spX D N st al) := by
  have f1 : (fun x => x ||| (bes D N x &&& al)) (spX D N st al) = spX D N st al := fix8 (T := fun x => x ||| (bes D N x &&& al)) (fun x => sb_orl _ _) (fun x h => sm8_or h (sm8_and2 ha)) (sm8_and2 ha)
  exact stX_fix f1
theorem spX_min (hN : N ≤ 32) (hx : sb (st &&& al) z) (hz : clo D N al z) : sb (spX D N st al) z := sp_le (T := fun x => x ||| (bes D N x &&& al)) (fun y hy => stX_clo hy hz hN) hx
theorem sm8_sb (h : sb x o) (ho : sm8 o) : sm8 x := fun i h1 h2 => by
  cases hb : bt x i with
  | false => rfl
  | true => have := h i h2 hb; rw [ho i h1 h2] at this; cases this
theorem b_an {x y : Int32} {i : Nat} (h1 : bt x i = true) (h2 : bt y i = true) : bt (x &&& y) i = true := by rw [b_and, h1, h2]; rfl
theorem b_an1 {x y : Int32} {i : Nat} (h : bt (x &&& y) i = true) : bt x i = true := by rw [b_and, Bool.and_eq_true] at h; exact h.1
theorem b_an2 {x y : Int32} {i : Nat} (h : bt (x &&& y) i = true) : bt y i = true := by rw [b_and, Bool.and_eq_true] at h; exact h.2
theorem spX_left (hN : N ≤ 8) (ho : sm8 o) (hl : sb z o) (hc : clo D N o z) (hx : sb (x &&& o) z) : spX D N x z = spX D N x o := by
  have c1 := spX_clo (D := D) (st := x) hN ho
  have c2 := spX_clo (D := D) (st := x) hN (sm8_sb hl ho)
  refine sb_eq (spX_min (by omega) (fun i hi h => ?_) (fun k hk hb i hi h => ?_)) (spX_min (by omega) (fun i hi h => ?_) (fun k hk hb i hi h => ?_))
  · exact spX_st i hi (b_an (b_an1 h) (hl i hi (b_an2 h)))
  · exact c1 k hk hb i hi (b_an (b_an1 h) (hl i hi (b_an2 h)))
  · exact spX_st i hi (b_an (b_an1 h) (hx i hi h))
  · exact c2 k hk hb i hi (b_an (b_an1 h) (hc k hk (spX_al k (by omega) hb) i hi h))
theorem cN_zero (h : sm8 x) (hc : cN x 8 = 0) : x = 0 := by
  apply b_ext
  intro i hi
  rw [b_0]
  by_cases h8 : i < 8
  · cases hb : bt x i with
    | false => rfl
    | true =>
      have hs : sb 0 x := fun k _ hk => by rw [b_0] at hk; cases hk
      have := cN_eq hs 8 (by decide) (by omega) i h8 hb
      rw [b_0] at this
      cases this
  · exact h i (by omega) hi
theorem cN_less {y : Int32} (hs : sb y x) {i : Nat} (hi : i < 8) (h1 : bt x i = true) (h2 : bt y i = false) : cN y 8 < cN x 8 := by
  apply Nat.lt_of_not_le
  intro hle
  have := cN_eq hs 8 (by decide) hle i hi h1
  rw [h2] at this
  cases this
theorem x_ne0 (h : sm8 x) (h0 : x ≠ 0) : ∃ j, j < 8 ∧ fsB x 8 0 = nI j ∧ bt x j = true ∧ ∀ i, i < j → bt x i = false := by
  rcases fsB_spec x 8 0 with ⟨-, hb⟩ | ⟨j, -, h2, h3, h4, h5⟩
  · exfalso
    apply h0
    apply b_ext
    intro i hi
    rw [b_0]
    by_cases h8 : i < 8
    · exact hb i (by omega) (by omega)
    · exact h i (by omega) hi
  · exact ⟨j, by omega, h3, h4, fun i hi => h5 i (by omega) hi⟩
theorem pc_step (ho : sm8 o) (hl : sb x o) (hj : j < 8) (hb : bt x j = true) : sb (x &&& (spX D N ((1 : Int32) <<< (nI j &&& 31)) o ^^^ (-1))) x ∧ cN (x &&& (spX D N ((1 : Int32) <<< (nI j &&& 31)) o ^^^ (-1))) 8 < cN x 8 := by
  have hs : sb (x &&& (spX D N ((1 : Int32) <<< (nI j &&& 31)) o ^^^ (-1))) x := fun i hi h => b_an1 h
  refine ⟨hs, cN_less hs hj hb ?_⟩
  have : bt (spX D N ((1 : Int32) <<< (nI j &&& 31)) o) j = true := spX_st j (by omega) (b_an (by rw [b_one (by omega) (by omega)]; exact decide_eq_true rfl) (hl j (by omega) hb))
  rw [b_and, b_not (by omega), this, Bool.not_true, Bool.and_false]
theorem pcV_le : ∀ m x, pcV D N o m x ≤ m
  | 0, _ => Nat.le_refl 0
  | m + 1, x => by
    show (bif decide (x = 0) then 0 else 1 + pcV D N o m _) ≤ m + 1
    cases decide (x = 0) with
    | true => exact Nat.zero_le _
    | false => have := pcV_le m (x &&& (spX D N ((1 : Int32) <<< (fsB x 8 0 &&& 31)) o ^^^ (-1))); simp only [cond_false]; omega
theorem pcV_0 : ∀ m, pcV D N o m 0 = 0
  | 0 => rfl
  | m + 1 => rfl
theorem bes_itr (set base : Int32) : ∀ N, itr (fun k (y : Int32) => bif bt set k then y ||| (D k &&& o) else y) N base = base ||| (bes D N set &&& o)
  | 0 => by
    show base = base ||| (0 &&& o)
    apply b_ext
    intro i _
    rw [b_or, b_and, b_0, Bool.false_and, Bool.or_false]
  | N + 1 => by
    show (bif bt set N then itr (fun k (y : Int32) => bif bt set k then y ||| (D k &&& o) else y) N base ||| (D N &&& o) else itr (fun k (y : Int32) => bif bt set k then y ||| (D k &&& o) else y) N base) = base ||| ((bif bt set N then bes D N set ||| D N else bes D N set) &&& o)
    rw [bes_itr set base N]
    cases bt set N with
    | false => rfl
    | true =>
      simp only [cond_true]
      apply b_ext
      intro i _
      rw [b_or, b_or, b_and, b_and, b_or, b_and, b_or]
      cases bt base i <;> cases bt (bes D N set) i <;> cases bt (D N) i <;> cases bt o i <;> rfl
def faV (D : Nat → Int32) (N : Nat) (o : Int32) (q : Nat) : Nat → Nat → Int32 → Int32
  | 0, _, _ => -1
  | n + 1, k, x => bif bt x q then nI k else faV D N o q n (k + 1) (x ||| (bes D N x &&& o))
theorem cn_it (x y : Int32) (h : ∀ i, i < 8 → (bt x i && bt y i) = false) : ∀ n, n ≤ 8 → itr (fun j (a : Int32) => a + ur_b (bt (x ||| y) j)) n 0 = itr (fun j (a : Int32) => a + ur_b (bt x j)) n 0 + itr (fun j (a : Int32) => a + ur_b (bt y j)) n 0
  | 0, _ => rfl
  | n + 1, hn => by
    show itr (fun j (a : Int32) => a + ur_b (bt (x ||| y) j)) n 0 + ur_b (bt (x ||| y) n) = (itr (fun j (a : Int32) => a + ur_b (bt x j)) n 0 + ur_b (bt x n)) + (itr (fun j (a : Int32) => a + ur_b (bt y j)) n 0 + ur_b (bt y n))
    rw [cn_it x y h n (by omega), b_or]
    have hh := h n (by omega)
    generalize itr (fun j (a : Int32) => a + ur_b (bt x j)) n 0 = A
    generalize itr (fun j (a : Int32) => a + ur_b (bt y j)) n 0 = B
    have e0 : ur_b false = 0 := rfl
    cases hx : bt x n with
    | true =>
      rw [hx, Bool.true_and] at hh
      rw [hh, Bool.true_or, e0, Int32.add_zero, Int32.add_assoc, Int32.add_comm B, ← Int32.add_assoc]
    | false => rw [Bool.false_or, e0, Int32.add_zero, Int32.add_assoc]
theorem cn_dis {x y : Int32} (h : ∀ i, i < 8 → (bt x i && bt y i) = false) : cnB (x ||| y) = cnB x + cnB y := cn_it x y h 8 (Nat.le_refl 8)
/-- one that cuts -/
def hgV (D : Nat → Int32) (N : Nat) (o : Int32) (j : Nat) : Bool := !decide (spX D N ((spX D N ((1 : Int32) <<< (nI j &&& 31)) o &&& (((1 : Int32) <<< (nI j &&& 31)) ^^^ (-1))) &&& (-(spX D N ((1 : Int32) <<< (nI j &&& 31)) o &&& (((1 : Int32) <<< (nI j &&& 31)) ^^^ (-1))))) (spX D N ((1 : Int32) <<< (nI j &&& 31)) o &&& (((1 : Int32) <<< (nI j &&& 31)) ^^^ (-1))) = (spX D N ((1 : Int32) <<< (nI j &&& 31)) o &&& (((1 : Int32) <<< (nI j &&& 31)) ^^^ (-1))))
theorem pc_hg (hx : sm8 x) : decide (nI (pcV D N x 8 x) ≤ 1) = decide (spX D N (x &&& (-x)) x = x) := by
  by_cases h0 : x = 0
  · rw [h0, pcV_0, decide_eq_true (show nI 0 ≤ (1 : Int32) from by decide), decide_eq_true]
    exact spX_0 (b_ext fun i _ => by rw [b_and, b_0, Bool.and_false])
  · obtain ⟨j, hj, e1, e2, -⟩ := x_ne0 hx h0
    rw [lo_sm hx h0, e1]
    have e : pcV D N x 8 x = bif decide (x = 0) then 0 else 1 + pcV D N x 7 (x &&& (spX D N ((1 : Int32) <<< (fsB x 8 0 &&& 31)) x ^^^ (-1))) := rfl
    rw [e, decide_eq_false h0, cond_false, e1]
    by_cases hC : spX D N ((1 : Int32) <<< (nI j &&& 31)) x = x
    · have z0 : x &&& (x ^^^ (-1)) = 0 := b_ext fun i hi => by
        rw [b_and, b_not hi, b_0]
        cases bt x i <;> rfl
      rw [hC, z0, pcV_0, decide_eq_true rfl]
      decide
    · have hne : x &&& (spX D N ((1 : Int32) <<< (nI j &&& 31)) x ^^^ (-1)) ≠ 0 := fun z => by
        apply hC
        refine sb_eq spX_al (fun i hi hb => ?_)
        have := congrArg (fun t => bt t i) z
        rw [b_and, b_not hi, hb, Bool.true_and, b_0] at this
        cases h : bt (spX D N ((1 : Int32) <<< (nI j &&& 31)) x) i with
        | true => rfl
        | false => rw [h] at this; cases this
      generalize hy : x &&& (spX D N ((1 : Int32) <<< (nI j &&& 31)) x ^^^ (-1)) = y at *
      have e' : pcV D N x 7 y = bif decide (y = 0) then 0 else 1 + pcV D N x 6 (y &&& (spX D N ((1 : Int32) <<< (fsB y 8 0 &&& 31)) x ^^^ (-1))) := rfl
      have hle := pcV_le (D := D) (N := N) (o := x) 6 (y &&& (spX D N ((1 : Int32) <<< (fsB y 8 0 &&& 31)) x ^^^ (-1)))
      rw [decide_eq_false hC, e', decide_eq_false hne, cond_false]
      apply decide_eq_false
      intro z
      have := (nI_leI (a := _) (b := 1) (by omega) (by decide)).mp z
      omega
end URG3
section URK4
variable {s : List (Nat ⊕ (Nat × Nat))} {f f' f1 f2 l V V' : Nat → Nat → Int32} {g : Nat → Nat → Int64} {R : Nat → Nat → Option Nat} {L L' K K' D d b j p P N w n k k' : Nat} {U r x y z : Int32} {E : Int32 → Int32 → Int32 → Int32 → Int32} {as : List Value}
theorem op_bt (h : wfV l V N P) {i : Nat} (hi : i < 32) : bt (opX l V) i = (decide (i < N) && (!bt (l 0 9) i && !bt (V 0 6) i)) := by
  obtain ⟨f, b, S, hl, hn⟩ := h
  unfold opX
  rw [hl.2.1.1, b_and, b_and, b_mask N hl.1.1 i hi, b_not hi, b_not hi, Bool.and_assoc]
theorem op_N (h : wfV l V N P) {i : Nat} (hi : i < 32) (hb : bt (opX l V) i = true) : i < N := by
  rw [op_bt h hi, Bool.and_eq_true] at hb
  exact of_decide_eq_true hb.1
theorem op_sm (h : wfV l V N P) : sm8 (opX l V) := fun i h1 h2 => by
  rw [op_bt h h2, decide_eq_false (by have := h.r8; omega)]; rfl
theorem wf_sym (h : wfV l V N P) {i k : Nat} (hi : i < N) (hk : k < N) : bt (l 3 i) k = bt (l 3 k) i := by
  obtain ⟨f, b, S, hl, hn⟩ := h
  exact hl.2.2.2.2.2.1 i k hi hk
theorem x_open (hX : oX s R L L' K K') (hc : cX s R f 33 L l V N P) : ur_call ur_G (d + 2) 107 [.ref 0] (s, f, g, R) = some (opX l V, (s, f, g, R)) := by
  refine ur_cl hX.rcv rfl (e_X9_openRooms_0 _ _ ?_)
  simp only [hX.r1, hX.r5, Option.bind_some, s_saidRooms hc.oL, hc.oN.I, hc.f0, hc.l0]
  rfl
theorem x_isOpen (hX : oX s R L L' K K') (hc : cX s R f 33 L l V N P) (hj : j < N) : ur_call ur_G (d + 3) 108 [.ref 0, .int (nI j)] (s, f, g, R) = some (ur_b (bt (opX l V) j), (s, f, g, R)) := by
  have h8 := hc.r8
  refine ur_cl hX.rcv rfl (e_X9_isOpen_0 _ _ _ ?_)
  simp only [hX.r1, Option.bind_some, s_hasRoom hc.oL hc.er, inR_in hj (show N < 2 ^ 31 by omega), ub_0, x_open hX hc, s_bit _ (show j < 32 by omega), ub_n1]
  cases bt (opX l V) j <;> rfl
theorem x_isOpen_out (hX : oX s R L L' K K') (hc : cX s R f 33 L l V N P) (hx : inR x N = false) : ur_call ur_G (d + 3) 108 [.ref 0, .int x] (s, f, g, R) = some (0, (s, f, g, R)) := by
  refine ur_cl hX.rcv rfl (e_X9_isOpen_0 _ _ _ ?_)
  simp only [hX.r1, Option.bind_some, s_hasRoom hc.oL hc.er, hx]
  rfl
theorem m_open (h : cM s R f b l V N P E) : ur_call ur_G (d + 2) 183 [.ref b] (s, f, g, R) = some (opX l V, (s, f, g, R)) := by
  rw [t_open h.oM h.er h.r8, r_op h.hl h.hn]
  rfl
theorem m_isOpen (h : cM s R f b l V N P E) (hj : j < N) : ur_call ur_G (d + 3) 184 [.ref b, .int (nI j)] (s, f, g, R) = some (ur_b (bt (opX l V) j), (s, f, g, R)) := by
  rw [t_isOpen_in h.oM h.er h.r8 hj, r_op h.hl h.hn]
  rfl
theorem m_isOpen_out (h : cM s R f b l V N P E) (hx : inR x N = false) : ur_call ur_G (d + 3) 184 [.ref b, .int x] (s, f, g, R) = some (0, (s, f, g, R)) := t_isOpen_out h.oM h.er hx
theorem cM.wf (h : cM s R f b l V N P E) : wfV l V N P := ⟨f, b, _, h.hl, h.hn⟩
theorem c_spread (h : cX s R f n L l V N P) : ur_call ur_G (d + 3) 8 [.ref L, .int x, .int y] (s, f, g, R) = some (spX (l 3) N x y, (s, f, g, R)) := by
  rw [s_spread h.oL h.er h.r8, h.bl.1 3 (by decide)]
theorem c_beside (h : cX s R f n L l V N P) : ur_call ur_G (d + 2) 7 [.ref L, .int x] (s, f, g, R) = some (bes (l 3) N x, (s, f, g, R)) := by
  rw [s_roomsBeside h.oL h.er h.r8, h.bl.1 3 (by decide)]
theorem j_reach (h : JV s R f g L L' K K' l V N P E) : JQ s R f g (d + 60) 109 224 [.int x] := by
  have hX := h.oX
  have hc := h.cX
  have h8 := h.r8
  rcases inR_c x (show N < 2 ^ 31 by omega) with ⟨j, hj, rfl⟩ | hx
  · refine jq_mk h (fun V => bif bt (opX l V) j then spX (l 3) N ((1 : Int32) <<< (nI j &&& 31)) (opX l V) else -1) ⟨V, f, reqv.refl, ur_cl hX.rcv rfl (e_X9_reach_0 _ _ _ ?_), eqT.refl⟩ (fun V' f1 hM => ⟨ur_u f1 208 0 0, ur_cl hM.oM.rcv rfl (e_X10_reach_0 _ _ _ ?_), eqT_u SR_0⟩)
    · simp only [x_isOpen hX hc hj, Option.bind_some, ub_0, hX.r1, x_open hX hc, c_spread hc]
      cases bt (opX l V) j <;> rfl
    · have h0 := m_thr hM
      simp only [hM.oM.pI, Option.bind_some, m_isOpen h0 hj, ub_0, m_open h0, m_spreads h0 (op_sm h0.wf)]
      cases bt (opX l V') j <;> rfl
  · refine jq_mk h (fun V => -1) ⟨V, f, reqv.refl, ur_cl hX.rcv rfl (e_X9_reach_0 _ _ _ ?_), eqT.refl⟩ (fun V' f1 hM => ⟨ur_u f1 208 0 0, ur_cl hM.oM.rcv rfl (e_X10_reach_0 _ _ _ ?_), eqT_u SR_0⟩)
    · simp only [x_isOpen_out hX hc hx, Option.bind_some]; rfl
    · simp only [hM.oM.pI, Option.bind_some, m_isOpen_out (m_thr hM) hx]; rfl
theorem x_far (hX : oX s R L L' K K') (hc : cX s R f 33 L l V N P) {q : Nat} (hq : q < 32) {o : Int32} : ∀ (n k : Nat) (x : Int32), n + k = 8 → ur_at ur_G (d + 2) 110 (31, [some (.ref 0), none, some (.int (nI q)), some (.int o), some (.int x), some (.int (nI k))], [], (s, f, g, R)) = some (faV (l 3) N o q n k x, (s, f, g, R))
  | 0, k, x, hk => by
    refine e_X9_far_31 _ _ _ _ _ _ ?_
    rw [show (8 : Int32) = nI 8 from rfl, d_le (by decide) (by omega), decide_eq_true (show 8 ≤ k by omega)]
    rfl
  | n + 1, k, x, hk => by
    refine e_X9_far_31 _ _ _ _ _ _ ?_
    have ih := x_far hX hc hq (o := o) n (k + 1) (x ||| (bes (l 3) N x &&& o)) (by omega)
    rw [show (8 : Int32) = nI 8 from rfl, d_le (by decide) (by omega), decide_eq_false (show ¬ 8 ≤ k by omega), cond_false]
    simp only [s_bit _ hq, Option.bind_some, ub_n1, hX.r1, c_beside hc, nI_1, ih]
    show _ = some (bif bt x q then nI k else faV (l 3) N o q n (k + 1) (x ||| (bes (l 3) N x &&& o)), _)
    cases bt x q <;> rfl
theorem m_far (h : cM s R f b l V N P E) {q : Nat} (hq : q < 32) : ∀ (n k : Nat) (x : Int32), n + k = 8 → ur_at ur_G (d + 2) 225 (30, [some (.ref b), none, some (.int (nI q)), some (.int x), some (.int (nI k)), none, none], [], (s, f, g, R)) = some (faV (l 3) N (opX l V) q n k x, (s, f, g, R))
  | 0, k, x, hk => by
    refine e_X10_far_30 _ _ _ _ _ ?_
    rw [show (8 : Int32) = nI 8 from rfl, d_le (by decide) (by omega), decide_eq_true (show 8 ≤ k by omega)]
    rfl
  | n + 1, k, x, hk => by
    have h8 := h.r8
    have hO := h.oM
    refine e_X10_far_30 _ _ _ _ _ ?_
    have ih := m_far h hq n (k + 1) (x ||| (bes (l 3) N x &&& opX l V)) (by omega)
    have a0 : ur_aI (s, f, g, R) (b + 2) 0 0 = some (f (b + 2) 0) := hO.a2 (show 0 < 6 by decide)
    have inner : ur_at ur_G (d + 2) 225 (55, [some (.ref b), none, some (.int (nI q)), some (.int x), some (.int (nI k)), some (.int x), some (.int 0)], [], (s, f, g, R)) = some (faV (l 3) N (opX l V) q n (k + 1) (x ||| (bes (l 3) N x &&& opX l V)), (s, f, g, R)) := by
      refine itr_loop (step := fun i (y : Int32) => bif bt x i then y ||| (l 3 i &&& opX l V) else y) (n := N) (Fn := fun i y => ur_at ur_G (d + 2) 225 (55, [some (.ref b), none, some (.int (nI q)), some (.int x), some (.int (nI k)), some (.int y), some (.int (nI i))], [], (s, f, g, R))) (fun i y hi h' => ?_) N x (Nat.le_refl N) ?_
      · refine e_X10_far_55 _ _ _ _ _ _ _ ?_
        simp only [hO.r10, a0, h.er, Option.bind_some, d_le (show N < 2 ^ 31 by omega) (show i < 2 ^ 31 by omega), decide_eq_false (show ¬ N ≤ i by omega), cond_false, b_bit (show i < 32 by omega), ub_n1, hO.r13, hO.a5 (show i < 16 by omega), m_open h, (h.hl.2.2.1 i hi).2.1, nI_1, i_or0]
        cases hb : bt x i with
        | true => rw [hb] at h'; exact h'
        | false => rw [hb] at h'; exact h'
      · refine e_X10_far_55 _ _ _ _ _ _ _ ?_
        simp only [hO.r10, a0, h.er, Option.bind_some, d_le (show N < 2 ^ 31 by omega) (show N < 2 ^ 31 by omega), Nat.le_refl, decide_true, cond_true, bes_itr, nI_1]
        exact ih
    rw [show (8 : Int32) = nI 8 from rfl, d_le (by decide) (by omega), decide_eq_false (show ¬ 8 ≤ k by omega), cond_false, b_bit hq, ub_n1, inner]
    show _ = some (bif bt x q then nI k else faV (l 3) N (opX l V) q n (k + 1) (x ||| (bes (l 3) N x &&& opX l V)), _)
    cases bt x q <;> rfl
theorem j_far (h : JV s R f g L L' K K' l V N P E) : JQ s R f g (d + 60) 110 225 [.int x, .int y] := by
  have hX := h.oX
  have hc := h.cX
  have h8 := h.r8
  rcases inR_c x (show N < 2 ^ 31 by omega) with ⟨j, hj, rfl⟩ | hx
  · rcases inR_c y (show N < 2 ^ 31 by omega) with ⟨q, hq, rfl⟩ | hy
    · refine jq_mk h (fun V => bif bt (opX l V) j then (bif bt (opX l V) q then faV (l 3) N (opX l V) q 8 0 ((1 : Int32) <<< (nI j &&& 31)) else -1) else -1) ⟨V, f, reqv.refl, ur_cl hX.rcv rfl (e_X9_far_0 _ _ _ _ ?_), eqT.refl⟩ (fun V' f1 hM => ⟨ur_u f1 208 0 0, ur_cl hM.oM.rcv rfl (e_X10_far_0 _ _ _ _ ?_), eqT_u SR_0⟩)
      · have e := x_far (d := d + 57) (g := g) hX hc (show q < 32 by omega) (o := opX l V) 8 0 ((1 : Int32) <<< (nI j &&& 31)) rfl
        rw [show nI 0 = (0 : Int32) from rfl] at e
        simp only [x_isOpen hX hc hj, x_isOpen hX hc hq, Option.bind_some, ub_0, ub_n0, x_open hX hc, e]
        cases bt (opX l V) j <;> cases bt (opX l V) q <;> rfl
      · have h0 := m_thr hM
        have e := m_far (d := d + 57) (g := g) h0 (show q < 32 by omega) 8 0 ((1 : Int32) <<< (nI j &&& 31)) rfl
        rw [show nI 0 = (0 : Int32) from rfl] at e
        simp only [hM.oM.pI, Option.bind_some, m_isOpen h0 hj, m_isOpen h0 hq, ub_0, ub_n0, e]
        cases bt (opX l V') j <;> cases bt (opX l V') q <;> rfl
    · refine jq_mk h (fun V => -1) ⟨V, f, reqv.refl, ur_cl hX.rcv rfl (e_X9_far_0 _ _ _ _ ?_), eqT.refl⟩ (fun V' f1 hM => ⟨ur_u f1 208 0 0, ur_cl hM.oM.rcv rfl (e_X10_far_0 _ _ _ _ ?_), eqT_u SR_0⟩)
      · simp only [x_isOpen hX hc hj, x_isOpen_out hX hc hy, Option.bind_some, ub_0]
        cases bt (opX l V) j <;> rfl
      · simp only [hM.oM.pI, Option.bind_some, m_isOpen (m_thr hM) hj, m_isOpen_out (m_thr hM) hy, ub_0]
        cases bt (opX l V') j <;> rfl
  · refine jq_mk h (fun V => -1) ⟨V, f, reqv.refl, ur_cl hX.rcv rfl (e_X9_far_0 _ _ _ _ ?_), eqT.refl⟩ (fun V' f1 hM => ⟨ur_u f1 208 0 0, ur_cl hM.oM.rcv rfl (e_X10_far_0 _ _ _ _ ?_), eqT_u SR_0⟩)
    · simp only [x_isOpen_out hX hc hx, Option.bind_some]; rfl
    · simp only [hM.oM.pI, Option.bind_some, m_isOpen_out (m_thr hM) hx]; rfl
end URK4

/-! The reference: its methods do the same -/
section URM3
variable {s : List (Nat ⊕ (Nat × Nat))} {f f' l V V' : Nat → Nat → Int32} {g : Nat → Nat → Int64} {R : Nat → Nat → Option Nat} {b d j p P N w q : Nat} {r x y : Int32} {E : Int32 → Int32 → Int32 → Int32 → Int32} {T : Nat → Nat → Prop} {S : Nat → Int32}
theorem rL.fr (h : rL f b l N P) (e2 : f' (b + 2) = f (b + 2)) (e4 : f' (b + 4) = f (b + 4)) (e5 : f' (b + 5) = f (b + 5)) (e7 : f' (b + 7) = f (b + 7)) (e8 : f' (b + 8) = f (b + 8)) (e9 : f' (b + 9) = f (b + 9)) : rL f' b l N P := by
  unfold rL
  rw [e2, e4, e5, e7, e8, e9]
  exact h
theorem cM.fr (h : cM s R f b l V N P E) (hT : eqT T f f') (hd : ∀ a k, b + 2 ≤ a → a < b + 13 → ¬ T a k) (hn : rN V' (l 0 9) N P (f' (b + 33))) : cM s R f' b l V' N P E := by
  have e : ∀ i, 2 ≤ i → i < 13 → f' (b + i) = f (b + i) := fun i h1 h2 => hT.row (fun k => hd _ k (by omega) (by omega))
  refine ⟨h.1, h.2.1.fr (e 2 (by decide) (by decide)) (e 4 (by decide) (by decide)) (e 5 (by decide) (by decide)) (e 7 (by decide) (by decide)) (e 8 (by decide) (by decide)) (e 9 (by decide) (by decide)), hn, ?_⟩
  have := h.2.2.2
  unfold lwM at this ⊢
  rw [e 10 (by decide) (by decide), e 11 (by decide) (by decide), e 12 (by decide) (by decide)]
  exact this
theorem TM_no : ∀ a k, b + 2 ≤ a → a < b + 13 → ¬ TM b a k := fun a k h1 h2 z => by unfold TM at z; omega
theorem cM.oM (h : cM s R f b l V N P E) : oModel s R b := h.1
theorem cM.hl (h : cM s R f b l V N P E) : rL f b l N P := h.2.1
theorem cM.hn (h : cM s R f b l V N P E) : rN V (l 0 9) N P (f (b + 33)) := h.2.2.1
theorem cM.r8 (h : cM s R f b l V N P E) : N ≤ 8 := h.2.1.1.1
theorem cM.p5 (h : cM s R f b l V N P E) : P ≤ 5 := h.2.1.1.2
theorem cM.er (h : cM s R f b l V N P E) : f (b + 2) 0 = nI N := h.2.1.2.1.2.2.1
theorem cM.ep (h : cM s R f b l V N P E) : f (b + 2) 2 = nI P := h.2.1.2.1.2.2.2.1
theorem cM.wh (h : cM s R f b l V N P E) (hp : p < P) : ∃ w, w < N ∧ w < 8 ∧ V 1 p = nI w ∧ f (b + 33) (4 + p) = nI w := by
  obtain ⟨w, hw, e, -⟩ := h.hn.2.2.2.1 p hp
  exact ⟨w, hw, by have := h.r8; omega, e, by rw [(h.hn.2.1 p hp).1, e]⟩
theorem m_passes (h : cM s R f b l V N P E) : ∃ f', ur_call ur_G (d + 5) 200 [.ref b] (s, f, g, R) = some ((pasV l P V).1, (s, f', g, R)) ∧ cM s R f' b l (pasV l P V).2 N P E ∧ eqT (TM b) f f' := by
  obtain ⟨f1, c1, c2, c3⟩ := t_passes (d := d) (g := g) h.oM rfl rfl h.er h.r8 h.ep h.p5 rfl (r_okM h.hl h.hn)
  obtain ⟨r1, r2⟩ := r_pas h.hl h.hn
  rw [← r1] at c1
  have t : eqT (TM b) f f1 := c3.mono (fun a k z => Or.inl z)
  exact ⟨f1, c1, h.fr t TM_no (by rw [c2]; exact r2), t⟩
theorem m_canShow (h : cM s R f b l V N P E) (hp : p < P) (hj : j < N) (hw : V 1 p = nI w) (hw8 : w < N) : ur_call ur_G (d + 3) 191 [.ref b, .int (nI p), .int (nI j)] (s, f, g, R) = some (ur_b (shV l V P p j w), (s, f, g, R)) := by
  have h8 := h.r8
  have h5 := h.p5
  rw [t_canShow h.oM h.ep h.p5 (show p < 5 by omega) (show j < 8 by omega) (show f (b + 33) (4 + p) = nI w by rw [(h.hn.2.1 p hp).1, hw]) (show w < 8 by omega), r_show h.hl h.hn hp hj hw8]
  rfl
theorem m_goesBit (h : cM s R f b l V N P E) (hp : p < P) (hw : V 1 p = nI w) (hw8 : w < N) : ∃ v, ur_call ur_G (d + 3) 193 [.ref b, .int (nI p)] (s, f, g, R) = some (v, (s, f, g, R)) ∧ (∀ j, j < N → bt v j = wkV l V p j w) ∧ ∀ i, N ≤ i → i < 32 → bt v i = false := by
  have h8 := h.r8
  have h5 := h.p5
  refine ⟨_, t_goesOf h.oM h.er h.r8 (show p < 5 by omega) (show f (b + 33) (4 + p) = nI w by rw [(h.hn.2.1 p hp).1, hw]) (show w < 8 by omega), fun j hj => ?_, fun i h1 h2 => ?_⟩
  · rw [r_walk h.hl h.hn hp hj hw8]
    rfl
  · cases inM' f b p with
    | true => exact b_0 i
    | false =>
      simp only [cond_false]
      rw [b_and, r_opb h.hl h.hn h2, decide_eq_false (by omega), Bool.false_and, Bool.and_false]
theorem m_canSpeak (h : cM s R f b l V N P E) (hp : p < P) : ur_call ur_G (d + 2) 194 [.ref b, .int (nI p)] (s, f, g, R) = some (ur_b (skV l V p), (s, f, g, R)) := by
  have h5 := h.p5
  rw [t_canSpeak h.oM (show p < 5 by omega), r_speak h.hl h.hn hp]
  rfl
theorem m_between : ur_call ur_G (d + 1) 141 [.int x, .int 1, .int 30] (s, f, g, R) = some (cl30 x, (s, f, g, R)) := by
  refine ur_cl rfl rfl (e_X10_between_0 _ _ _ _ ?_)
  unfold cl30
  cases decide (1 ≤ x)
  · rfl
  · cases decide (x ≤ 30) <;> rfl
theorem m_stayOf (h : cM s R f b l V N P E) (hp : p < P) (hj : j < N) : ∃ f', ur_call ur_G (d + 4) 189 [.ref b, .int (nI p), .int (nI j), .int r] (s, f, g, R) = some (syV E l V p j r, (s, f', g, R)) ∧ cM s R f' b l V N P E ∧ eqT (TV b) f f' := by
  have h8 := h.r8
  have h5 := h.p5
  have hM := h.oM
  obtain ⟨k, n, e10, e11, hkn, hv⟩ := h.2.2.2
  have a11 : ur_aI (s, f, g, R) (b + 11) 0 0 = some (f (b + 11) 0) := hM.a11 (show 0 < 2 by decide)
  have a10 : ur_aI (s, f, g, R) (b + 10) 0 0 = some (f (b + 10) 0) := hM.a10 (show 0 < 2 by decide)
  have eh : f (b + 4) j = l 2 j := (h.hl.2.2.1 j hj).1
  have ea : f (b + 8) p = l 6 p := (h.hl.2.2.2.2.2.2.2 p hp).2.1
  have et : f (b + 33) (19 + p) = V 4 p := (h.hn.2.1 p hp).2.2.1
  rcases hv with ⟨hn0, hE⟩ | ⟨hn0, hE⟩
  · refine ⟨f, ur_cl hM.rcv rfl (e_X10_stayOf_0 _ _ _ _ _ ?_), h, eqT.refl⟩
    simp only [hM.r12, hM.a4 (show j < 16 by omega), hM.r19, a11, hM.r18, a10, Option.bind_some, e10, e11, d_le (show k + n < 2 ^ 31 by omega) (show k < 2 ^ 31 by omega), decide_eq_true (show k + n ≤ k by omega), cond_true, m_between, eh]
    unfold syV
    rw [hE]
  · obtain ⟨f1, hf1⟩ : ∃ f1, f1 = ur_u (ur_u (ur_u (ur_u f (b + 24) 1 (l 2 j)) (b + 24) 2 (V 4 p)) (b + 24) 3 (l 6 p)) (b + 24) 4 r := ⟨_, rfl⟩
    have t1 : eqT (TV b) f f1 := by
      rw [hf1]
      exact (((eqT_u (T := TV b) (by unfold TV; omega)).u (by unfold TV; omega)).u (by unfold TV; omega)).u (by unfold TV; omega)
    have o1 : ∀ i, i ≠ 24 → f1 (b + i) = f (b + i) := fun i hi => by rw [hf1, ur_ua (by omega), ur_ua (by omega), ur_ua (by omega), ur_ua (by omega)]
    have eA : f1 (b + 24) = up (up (up (up (f (b + 24)) 1 (l 2 j)) 2 (V 4 p)) 3 (l 6 p)) 4 r := by rw [hf1, ur_uS (ur_uS (ur_uS (ur_uS rfl)))]
    have hk := hE (f1 (b + 24)) (fun i => f1 (b + (15 + i)))
    rw [eA] at hk
    have hk2 : wkM (f (b + 12)) (up (up (up (up (f (b + 24)) 1 (l 2 j)) 2 (V 4 p)) 3 (l 6 p)) 4 r) k n (fun i => f1 (b + (15 + i))) = some (E (l 2 j) (V 4 p) (l 6 p) r) := by
      rw [hk]
      rfl
    obtain ⟨f2, c1, c2⟩ := t_worked (d := d) (g := g) hM (show bW f1 b (fun i => f1 (b + (15 + i))) from fun i _ => rfl) (o1 12 (by decide)) eA (by rw [o1 10 (by decide), e10]) (by rw [o1 11 (by decide), e11]) (show k + n ≤ 2000 by omega) hk2
    have t2 : eqT (TV b) f f2 := t1.trans (c2.mono (fun a k z => by unfold TW at z; unfold TV; omega))
    refine ⟨f2, ur_cl hM.rcv rfl (e_X10_stayOf_0 _ _ _ _ _ ?_), h.fr t2 (fun a k h1 h2 z => by unfold TV at z; omega) (by rw [t2.row (fun k => by unfold TV; omega)]; exact h.hn), t2⟩
    have w1 : ∀ f' v, ur_wI (s, f', g, R) (b + 24) 0 1 v = some (s, ur_u f' (b + 24) 1 v, g, R) := fun f' v => hM.w24 (show 1 < 20 by decide)
    have w2 : ∀ f' v, ur_wI (s, f', g, R) (b + 24) 0 2 v = some (s, ur_u f' (b + 24) 2 v, g, R) := fun f' v => hM.w24 (show 2 < 20 by decide)
    have w3 : ∀ f' v, ur_wI (s, f', g, R) (b + 24) 0 3 v = some (s, ur_u f' (b + 24) 3 v, g, R) := fun f' v => hM.w24 (show 3 < 20 by decide)
    have w4 : ∀ f' v, ur_wI (s, f', g, R) (b + 24) 0 4 v = some (s, ur_u f' (b + 24) 4 v, g, R) := fun f' v => hM.w24 (show 4 < 20 by decide)
    simp only [hM.r12, hM.a4 (show j < 16 by omega), hM.r19, a11, hM.r18, a10, Option.bind_some, e10, e11, d_le (show k + n < 2 ^ 31 by omega) (show k < 2 ^ 31 by omega), decide_eq_false (show ¬ k + n ≤ k by omega), cond_false, hM.r33, w1, w2, w3, w4, hM.r44, show (19 : Int32) + nI p = nI (19 + p) from nI_add 19 p, hM.a33 (show 19 + p < 29 by omega), hM.r16, hM.a8 (show p < 10 by omega), ur_ua (show b + 33 ≠ b + 24 by omega), ur_ua (show b + 8 ≠ b + 24 by omega), eh, ea, et, ← hf1, c1, m_between]
    rfl
theorem m_shows (h : cM s R f b l V N P E) (hp : p < P) (hj : j < N) (hw : V 1 p = nI w) (hw8 : w < 8) (hc : shV l V P p j w = true) : ∃ f', ur_call ur_G (d + 5) 192 [.ref b, .int (nI p), .int (nI j)] (s, f, g, R) = some (syV E l V p j (V 0 7), (s, f', g, R)) ∧ cM s R f' b l (tsV V p j (syV E l V p j (V 0 7))) N P E ∧ eqT (TM b) f f' := by
  have h8 := h.r8
  have h5 := h.p5
  have hM := h.oM
  obtain ⟨f1, c1, c2, c3⟩ := m_stayOf (d := d) (g := g) (r := V 0 7) h hp hj
  obtain ⟨m, m1, m2, m3⟩ := cl30_is (E (l 2 j) (V 4 p) (l 6 p) (V 0 7))
  have hsy : syV E l V p j (V 0 7) = nI m := m3
  have e1 : f (b + 33) 1 = V 0 7 := h.hn.1.2.1
  have a1 : ur_aI (s, f, g, R) (b + 33) 0 1 = some (f (b + 33) 1) := hM.a33 (show 1 < 29 by decide)
  have n4 : (4 : Int32) + nI p = nI (4 + p) := nI_add 4 p
  have n9 : (9 : Int32) + nI p = nI (9 + p) := nI_add 9 p
  have n14 : (14 : Int32) + nI p = nI (14 + p) := nI_add 14 p
  have n19 : (19 : Int32) + nI p = nI (19 + p) := nI_add 19 p
  obtain ⟨f2, hf2⟩ : ∃ f2, f2 = ur_u (ur_u (ur_u (ur_u f1 (b + 33) (9 + p) (f1 (b + 33) (4 + p))) (b + 33) (4 + p) (nI j)) (b + 33) (14 + p) (nI m)) (b + 33) (19 + p) (f1 (b + 33) (19 + p) + 1) := ⟨_, rfl⟩
  have t2 : eqT (TM b) f1 f2 := by
    rw [hf2]
    exact (((eqT_u (T := TM b) (Or.inl rfl)).u (Or.inl rfl)).u (Or.inl rfl)).u (Or.inl rfl)
  have s2 : f2 (b + 33) = up (up (up (up (f1 (b + 33)) (9 + p) (f1 (b + 33) (4 + p))) (4 + p) (nI j)) (14 + p) (nI m)) (19 + p) (f1 (b + 33) (19 + p) + 1) := by rw [hf2, ur_uS (ur_uS (ur_uS (ur_uS rfl)))]
  refine ⟨f2, ur_cl hM.rcv rfl (e_X10_shows_0 _ _ _ _ ?_), c2.fr t2 TM_no ?_, (c3.mono (fun a k z => Or.inr z)).trans t2⟩
  · simp only [hM.r44, a1, e1, Option.bind_some, c1, hsy, n4, n9, n14, n19, hM.a33 (show 4 + p < 29 by omega), hM.w33 (show 9 + p < 29 by omega), hM.w33 (show 4 + p < 29 by omega), hM.w33 (show 14 + p < 29 by omega), hM.a33 (show 19 + p < 29 by omega), hM.w33 (show 19 + p < 29 by omega), ur_un (show 19 + p ≠ 14 + p by omega), ur_un (show 19 + p ≠ 4 + p by omega), ur_un (show 19 + p ≠ 9 + p by omega), hf2]
  · rw [s2, hsy]
    exact r_ts c2.hl c2.hn hp hj hw hw8 hc m2
theorem m_speaks (h : cM s R f b l V N P E) (hp : p < P) : ∃ f', ur_call ur_G (d + 1) 195 [.ref b, .int (nI p)] (s, f, g, R) = some (0, (s, f', g, R)) ∧ cM s R f' b l (tpV V p) N P E ∧ eqT (TM b) f f' := by
  have h5 := h.p5
  have hM := h.oM
  have a3 : ur_aI (s, f, g, R) (b + 33) 0 3 = some (f (b + 33) 3) := hM.a33 (show 3 < 29 by decide)
  have w3 : ∀ f' v, ur_wI (s, f', g, R) (b + 33) 0 3 v = some (s, ur_u f' (b + 33) 3 v, g, R) := fun f' v => hM.w33 (show 3 < 29 by decide)
  have t : eqT (TM b) f (ur_u (ur_u (ur_u f (b + 33) 3 (f (b + 33) 3 ||| ((1 : Int32) <<< (nI p &&& 31)))) (b + 33) (19 + p) 0) (b + 33) (24 + p) 0) := ((eqT_u (T := TM b) (Or.inl rfl)).u (Or.inl rfl)).u (Or.inl rfl)
  refine ⟨ur_u (ur_u (ur_u f (b + 33) 3 (f (b + 33) 3 ||| ((1 : Int32) <<< (nI p &&& 31)))) (b + 33) (19 + p) 0) (b + 33) (24 + p) 0, ur_cl hM.rcv rfl (e_X10_speaks_0 _ _ _ ?_), h.fr t TM_no ?_, t⟩
  · simp only [hM.r44, a3, w3, Option.bind_some, show (19 : Int32) + nI p = nI (19 + p) from nI_add 19 p, show (24 : Int32) + nI p = nI (24 + p) from nI_add 24 p, hM.w33 (show 19 + p < 29 by omega), hM.w33 (show 24 + p < 29 by omega)]
  · rw [ur_uS (ur_uS (ur_uS rfl))]
    exact r_tp h.hl h.hn hp
theorem m_whoIn0 (h : cM s R f b l V N P E) (hj : j < N) : ∃ v, ur_call ur_G (d + 1) 188 [.ref b, .int (nI j)] (s, f, g, R) = some (v, (s, f, g, R)) ∧ decide (v ≠ 0) = !noP V P j := by
  have h5 := h.p5
  refine ⟨_, t_whoIn h.oM h.ep h.p5, ?_⟩
  rw [sB_congr (Q := fun q => decide (V 1 q = nI j)) (fun q hq => by rw [(h.hn.2.1 q hq).1]), noP_sB (by omega)]
theorem m_canBurn (h : cM s R f b l V N P E) (hj : j < N) : ur_call ur_G (d + 4) 198 [.ref b, .int (nI j)] (s, f, g, R) = some (ur_b (decide (flV l V N P j ≠ 0)), (s, f, g, R)) := by
  have h8 := h.r8
  obtain ⟨v, c1, c2⟩ := m_whoIn0 (d := d + 2) (g := g) h hj
  refine ur_cl h.oM.rcv rfl (e_X10_canBurn_0 _ _ _ ?_)
  simp only [t_isOpen_in h.oM h.er h.r8 hj, Option.bind_some, ub_0, c1, c2, r_opb h.hl h.hn (show j < 32 by omega), decide_eq_true hj, Bool.true_and]
  rw [r_fl0 (by omega), r_al h.hl h.hn (by omega), decide_eq_true hj, Bool.true_and]
  cases (!bt (l 0 9) j && !bt (V 0 6) j) <;> cases noP V P j <;> rfl
theorem m_canBurn_out (h : cM s R f b l V N P E) (hx : inR x N = false) : ur_call ur_G (d + 4) 198 [.ref b, .int x] (s, f, g, R) = some (0, (s, f, g, R)) := by
  refine ur_cl h.oM.rcv rfl (e_X10_canBurn_0 _ _ _ ?_)
  simp only [t_isOpen_out h.oM h.er hx, Option.bind_some]
  rfl
theorem bes_congr {D D' : Nat → Int32} : ∀ N, (∀ r, r < N → D r = D' r) → bes D N x = bes D' N x
  | 0, _ => rfl
  | N + 1, h => by
    show (bif bt x N then bes D N x ||| D N else bes D N x) = (bif bt x N then bes D' N x ||| D' N else bes D' N x)
    rw [bes_congr N (fun r hr => h r (by omega)), h N (by omega)]
theorem spX_congr {D D' : Nat → Int32} (h : ∀ r, r < N → D r = D' r) : spX D N x y = spX D' N x y := by
  unfold spX
  have : (fun (_ : Nat) (x : Int32) => x ||| (bes D N x &&& y)) = (fun (_ : Nat) (x : Int32) => x ||| (bes D' N x &&& y)) := by
    funext _ x
    rw [bes_congr N h]
  rw [this]
theorem m_spreads (h : cM s R f b l V N P E) (hy : sm8 y) : ur_call ur_G (d + 1) 197 [.ref b, .int x, .int y] (s, f, g, R) = some (spX (l 3) N x y, (s, f, g, R)) := by
  rw [t_spreads h.oM h.er h.r8, ← sp_eq h.r8 hy, spX_congr (fun r hr => (h.hl.2.2.1 r hr).2.1)]
theorem m_burntBy (h : cM s R f b l V N P E) : ur_call ur_G (d + 4) 196 [.ref b, .int (nI j)] (s, f, g, R) = some (flV l V N P j, (s, f, g, R)) := by
  have h8 := h.r8
  have hM := h.oM
  refine ur_cl hM.rcv rfl (e_X10_burntBy_0 _ _ _ ?_)
  have a0 : ur_aI (s, f, g, R) (b + 2) 0 0 = some (f (b + 2) 0) := hM.a2 (show 0 < 6 by decide)
  have eal : sB (fun k => bt (alV l V P) k) N = alV l V P := by
    apply b_ext
    intro i hi
    rw [sB_bt _ N (by omega) i hi, r_al h.hl h.hn hi]
    cases decide (i < N) <;> rfl
  refine sB_loop (P := fun k => bt (alV l V P) k) (n := N) (Fn := fun k z => ur_at ur_G (d + 3) 196 (4, [some (.ref b), some (.int (nI j)), some (.int z), some (.int (nI k))], [], (s, f, g, R))) (fun k z hk h' => ?_) ?_
  · obtain ⟨v, c1, c2⟩ := m_whoIn0 (d := d + 2) (g := g) h hk
    refine e_X10_burntBy_4 _ _ _ _ _ ?_
    simp only [hM.r10, a0, Option.bind_some, h.er, d_le (show N < 2 ^ 31 by omega) (show k < 2 ^ 31 by omega), decide_eq_false (show ¬ N ≤ k by omega), cond_false, t_open hM h.er h.r8, b_bit (show k < 32 by omega), ub_n1, r_opb h.hl h.hn (show k < 32 by omega), decide_eq_true hk, Bool.true_and, c1, c2, nI_1]
    rw [r_al h.hl h.hn (by omega), decide_eq_true hk, Bool.true_and] at h'
    cases hq1 : (!bt (l 0 9) k && !bt (V 0 6) k) with
    | false => rw [hq1] at h'; exact h'
    | true =>
      rw [hq1] at h'
      cases hq2 : noP V P k with
      | false => rw [hq2] at h'; exact h'
      | true => rw [hq2] at h'; exact h'
  · refine e_X10_burntBy_4 _ _ _ _ _ ?_
    simp only [hM.r10, a0, Option.bind_some, h.er, d_le (show N < 2 ^ 31 by omega) (show N < 2 ^ 31 by omega), Nat.le_refl, decide_true, cond_true]
    rw [eal, m_spreads h (r_alsm h.hl h.hn)]
    rfl
theorem m_isDone (h : cM s R f b l V N P E) {k i : Nat} (hi : i < 240) (hk : f (b + 26) i = nI k) (hln : lnX N P k (f (b + 27) i) (f (b + 28) i) p j) : ∃ f', ur_call ur_G (d + 6) 211 [.ref b, .int (nI i)] (s, f, g, R) = some (ur_b (foV E l V N P k p j).1, (s, f', g, R)) ∧ cM s R f' b l (foV E l V N P k p j).2 N P E ∧ eqT (TM b) f f' := by
  have h8 := h.r8
  have h5 := h.p5
  have hM := h.oM
  obtain ⟨k1, k2, k5⟩ := hln
  have head : ∀ r, (bif decide (nI k ≠ (4 : Int32)) then (bif decide (nI k ≠ 0) then (bif decide (nI k ≠ (1 : Int32)) then (bif decide (nI k ≠ (2 : Int32)) then ((ur_call ur_G (d + 5) 198 [.ref b, .int (f (b + 28) i)] (s, f, g, R)).bind fun q7 => (bif decide (q7.1 ≠ 0) then ((ur_fR q7.2 b 10 44).bind fun a8 => ((ur_aI q7.2 a8 0 (2 : Int32)).bind fun v9 => ((ur_call ur_G (d + 5) 196 [.ref b, .int (f (b + 28) i)] q7.2).bind fun q10 => ((ur_wI q10.2 a8 0 (2 : Int32) (v9 ||| q10.1)).bind fun m11 => some ((1 : Int32), m11))))) else some ((0 : Int32), q7.2))) else ((ur_call ur_G (d + 5) 194 [.ref b, .int (f (b + 27) i)] (s, f, g, R)).bind fun q12 => (bif decide (q12.1 ≠ 0) then ((ur_call ur_G (d + 5) 195 [.ref b, .int (f (b + 27) i)] q12.2).bind fun q13 => some ((1 : Int32), q13.2)) else some ((0 : Int32), q12.2)))) else ((ur_call ur_G (d + 5) 191 [.ref b, .int (f (b + 27) i), .int (f (b + 28) i)] (s, f, g, R)).bind fun q14 => (bif decide (q14.1 ≠ 0) then ((ur_call ur_G (d + 5) 192 [.ref b, .int (f (b + 27) i), .int (f (b + 28) i)] q14.2).bind fun q15 => some ((1 : Int32), q15.2)) else some ((0 : Int32), q14.2)))) else ((ur_call ur_G (d + 5) 193 [.ref b, .int (f (b + 27) i)] (s, f, g, R)).bind fun q16 => (bif decide (((q16.1 >>> ((f (b + 28) i) &&& 31)) &&& (1 : Int32)) ≠ 0) then ((ur_fR q16.2 b 10 44).bind fun a17 => ((ur_wI q16.2 a17 0 ((4 : Int32) + (f (b + 27) i)) (f (b + 28) i)).bind fun m18 => some ((1 : Int32), m18))) else some ((0 : Int32), q16.2)))) else ((ur_call ur_G (d + 5) 200 [.ref b] (s, f, g, R)).bind fun q19 => some ((1 : Int32), q19.2))) = some r → ur_call ur_G (d + 6) 211 [.ref b, .int (nI i)] (s, f, g, R) = some r := by
    intro r hr
    refine ur_cl hM.rcv rfl (e_X10_isDone_0 _ _ _ ?_)
    simp only [hM.r38, hM.a27 hi, hM.r39, hM.a28 hi, hM.r37, hM.a26 hi, Option.bind_some, hk]
    exact hr
  have a2 : ∀ f', ur_aI (s, f', g, R) (b + 33) 0 2 = some (f' (b + 33) 2) := fun f' => hM.a33 (show 2 < 29 by decide)
  have w2 : ∀ f' v, ur_wI (s, f', g, R) (b + 33) 0 2 v = some (s, ur_u f' (b + 33) 2 v, g, R) := fun f' v => hM.w33 (show 2 < 29 by decide)
  match k, k1, k2, k5, hk, head with
  | 0, k1, k2, _, hk, head =>
    obtain ⟨hp, e1⟩ := k1 (by decide)
    obtain ⟨hj, e2⟩ := k2 (Or.inl rfl)
    obtain ⟨w, hwN, hw8, hw, hw4⟩ := h.wh hp
    have hix : ix (V 1 p) = w := by rw [hw, ix_nI (by omega)]
    obtain ⟨v, c1, c2, -⟩ := m_goesBit (d := d + 2) (g := g) h hp hw hwN
    rw [e1, e2] at head
    show ∃ f', _ = some (ur_b (wkV l V p j (ix (V 1 p))), _) ∧ cM s R f' b l (bif wkV l V p j (ix (V 1 p)) then twV V p j else V) N P E ∧ _
    rw [hix]
    cases hc : wkV l V p j w with
    | false =>
      refine ⟨f, head _ ?_, h, eqT.refl⟩
      rw [show decide (nI 0 ≠ (4 : Int32)) = true from by decide, show decide (nI 0 ≠ (0 : Int32)) = false from by decide, cond_true, cond_false, c1, Option.bind_some, b_bit (by omega), c2 j hj, hc]
      rfl
    | true =>
      have t : eqT (TM b) f (ur_u f (b + 33) (4 + p) (nI j)) := eqT_u (Or.inl rfl)
      refine ⟨ur_u f (b + 33) (4 + p) (nI j), head _ ?_, h.fr t TM_no ?_, t⟩
      · rw [show decide (nI 0 ≠ (4 : Int32)) = true from by decide, show decide (nI 0 ≠ (0 : Int32)) = false from by decide, cond_true, cond_false, c1, Option.bind_some, b_bit (by omega), c2 j hj, hc]
        simp only [ub_n0, cond_true, hM.r44, Option.bind_some, show (4 : Int32) + nI p = nI (4 + p) from nI_add 4 p, hM.w33 (show 4 + p < 29 by omega)]
        rfl
      · rw [ur_uS rfl]
        exact r_tw h.hl h.hn hp hj hc
  | 1, k1, k2, _, hk, head =>
    obtain ⟨hp, e1⟩ := k1 (by decide)
    obtain ⟨hj, e2⟩ := k2 (Or.inr (Or.inl rfl))
    obtain ⟨w, hwN, hw8, hw, hw4⟩ := h.wh hp
    have hix : ix (V 1 p) = w := by rw [hw, ix_nI (by omega)]
    have c1 := m_canShow (d := d + 2) (g := g) h hp hj hw hwN
    rw [e1, e2] at head
    show ∃ f', _ = some (ur_b (shV l V P p j (ix (V 1 p))), _) ∧ cM s R f' b l (bif shV l V P p j (ix (V 1 p)) then tsV V p j (syV E l V p j (V 0 7)) else V) N P E ∧ _
    rw [hix]
    cases hc : shV l V P p j w with
    | false =>
      rw [hc] at c1
      refine ⟨f, head _ ?_, h, eqT.refl⟩
      rw [show decide (nI 1 ≠ (4 : Int32)) = true from by decide, show decide (nI 1 ≠ (0 : Int32)) = true from by decide, show decide (nI 1 ≠ (1 : Int32)) = false from by decide, cond_true, cond_true, cond_false, c1, Option.bind_some]
      rfl
    | true =>
      rw [hc] at c1
      obtain ⟨f1, d1, d2, d3⟩ := m_shows (d := d) (g := g) h hp hj hw hw8 hc
      refine ⟨f1, head _ ?_, d2, d3⟩
      rw [show decide (nI 1 ≠ (4 : Int32)) = true from by decide, show decide (nI 1 ≠ (0 : Int32)) = true from by decide, show decide (nI 1 ≠ (1 : Int32)) = false from by decide, cond_true, cond_true, cond_false, c1, Option.bind_some]
      simp only [ub_n0, cond_true, d1, Option.bind_some]
      rfl
  | 2, k1, k2, _, hk, head =>
    obtain ⟨hp, e1⟩ := k1 (by decide)
    have c1 := m_canSpeak (d := d + 3) (g := g) h hp
    rw [e1] at head
    show ∃ f', _ = some (ur_b (skV l V p), _) ∧ cM s R f' b l (bif skV l V p then tpV V p else V) N P E ∧ _
    cases hc : skV l V p with
    | false =>
      rw [hc] at c1
      refine ⟨f, head _ ?_, h, eqT.refl⟩
      rw [show decide (nI 2 ≠ (4 : Int32)) = true from by decide, show decide (nI 2 ≠ (0 : Int32)) = true from by decide, show decide (nI 2 ≠ (1 : Int32)) = true from by decide, show decide (nI 2 ≠ (2 : Int32)) = false from by decide, cond_true, cond_true, cond_true, cond_false, c1, Option.bind_some]
      rfl
    | true =>
      rw [hc] at c1
      obtain ⟨f1, d1, d2, d3⟩ := m_speaks (d := d + 4) (g := g) h hp
      refine ⟨f1, head _ ?_, d2, d3⟩
      rw [show decide (nI 2 ≠ (4 : Int32)) = true from by decide, show decide (nI 2 ≠ (0 : Int32)) = true from by decide, show decide (nI 2 ≠ (1 : Int32)) = true from by decide, show decide (nI 2 ≠ (2 : Int32)) = false from by decide, cond_true, cond_true, cond_true, cond_false, c1, Option.bind_some]
      simp only [ub_n0, cond_true, d1, Option.bind_some]
      rfl
  | 3, k1, k2, _, hk, head =>
    obtain ⟨hj, e2⟩ := k2 (Or.inr (Or.inr rfl))
    have c1 := m_canBurn (d := d + 1) (g := g) h hj
    have c2 := m_burntBy (d := d + 1) (g := g) (j := j) h
    rw [e2] at head
    show ∃ f', _ = some (ur_b (decide (flV l V N P j ≠ 0)), _) ∧ cM s R f' b l (ur_u V 0 6 (V 0 6 ||| flV l V N P j)) N P E ∧ _
    by_cases h0 : flV l V N P j = 0
    · rw [decide_eq_false (fun z => z h0)] at c1 ⊢
      refine ⟨f, head _ ?_, ?_, eqT.refl⟩
      · rw [show decide (nI 3 ≠ (4 : Int32)) = true from by decide, show decide (nI 3 ≠ (0 : Int32)) = true from by decide, show decide (nI 3 ≠ (1 : Int32)) = true from by decide, show decide (nI 3 ≠ (2 : Int32)) = true from by decide, cond_true, cond_true, cond_true, cond_true, c1, Option.bind_some]
        rfl
      · have : ur_u V 0 6 (V 0 6 ||| flV l V N P j) = V := by
          rw [h0, i_or0]
          funext a k
          unfold ur_u
          by_cases e : a = 0
          · rw [if_pos e]
            by_cases e' : k = 6
            · rw [if_pos e', e, e']
            · rw [if_neg e', e]
          · rw [if_neg e]
        rw [this]
        exact h
    · rw [decide_eq_true h0] at c1 ⊢
      have t : eqT (TM b) f (ur_u f (b + 33) 2 (f (b + 33) 2 ||| flV l V N P j)) := eqT_u (Or.inl rfl)
      refine ⟨ur_u f (b + 33) 2 (f (b + 33) 2 ||| flV l V N P j), head _ ?_, h.fr t TM_no ?_, t⟩
      · rw [show decide (nI 3 ≠ (4 : Int32)) = true from by decide, show decide (nI 3 ≠ (0 : Int32)) = true from by decide, show decide (nI 3 ≠ (1 : Int32)) = true from by decide, show decide (nI 3 ≠ (2 : Int32)) = true from by decide, cond_true, cond_true, cond_true, cond_true, c1, Option.bind_some]
        simp only [ub_n0, cond_true, hM.r44, a2, c2, w2, Option.bind_some]
        rfl
      · rw [ur_uS rfl]
        exact r_tb h.hl h.hn
  | 4, k1, k2, _, hk, head =>
    obtain ⟨f1, d1, d2, d3⟩ := m_passes (d := d) (g := g) h
    refine ⟨f1, head _ ?_, d2, d3⟩
    rw [show decide (nI 4 ≠ (4 : Int32)) = false from by decide, cond_false, d1, Option.bind_some]
    rfl
  | k + 5, _, _, k5, _, _ => exact absurd k5 (by omega)
end URM3

/-! The reference looks ahead -/
theorem i_le1 {z : Nat} (hz : z + 1 < 2 ^ 31) (x : Int32) : decide (nI z < x) = decide (nI (z + 1) ≤ x) := by
  by_cases h0 : x < 0
  · rw [decide_eq_false, decide_eq_false]
    · intro q; exact absurd (Int32.lt_of_le_of_lt q h0) (nI_pos hz)
    · intro q; exact absurd (Int32.lt_trans q h0) (nI_pos (by omega))
  · obtain ⟨j, hj, rfl⟩ := nI_of h0
    rw [d_lt (by omega) hj, d_le hz hj]
    by_cases h : z < j
    · rw [decide_eq_true h, decide_eq_true (show z + 1 ≤ j by omega)]
    · rw [decide_eq_false h, decide_eq_false (show ¬ z + 1 ≤ j by omega)]
theorem inR_w {z : Nat} (hz : z + 1 < 2 ^ 31) (x : Int32) : (!decide (x < 0) && !decide (nI z < x)) = inR x (z + 1) := by
  unfold inR
  rw [i_le1 hz]
section URTM
variable {s : List (Nat ⊕ (Nat × Nat))} {f f' l V : Nat → Nat → Int32} {g : Nat → Nat → Int64} {R : Nat → Nat → Option Nat} {b d j p P N w q k : Nat} {r x y z : Int32} {E : Int32 → Int32 → Int32 → Int32 → Int32}
theorem cM.sr (h : cM s R f b l V N P E) (t : eqT (SR b) f f') : cM s R f' b l V N P E := by
  refine h.fr t (fun a k h1 h2 z => by unfold SR at z; omega) (h.hn.eqv h.p5 reqv.refl (fun k hk => t _ k (fun z => by unfold SR at z; omega)))
theorem SR_0 : SR b b 0 := Or.inl ⟨rfl, Or.inl rfl⟩
theorem m_thr (h : cM s R f b l V N P E) : cM s R (ur_u f b 0 0) b l V N P E := h.sr (eqT_u SR_0)
theorem t_within : ur_call ur_G (d + 1) 140 [.int x, .int y, .int z] (s, f, g, R) = some (ur_b (!decide (x < y) && !decide (z < x)), (s, f, g, R)) := by
  refine ur_cl rfl rfl (e_X10_within_0 _ _ _ _ ?_)
  cases decide (x < y) <;> cases decide (z < x) <;> rfl
/-- how it is, put aside; then brought back -/
theorem m_save {a : Nat} (h : cM s R f b l V N P E) (ha : a = 34 ∨ a = 35) : ∃ f', ur_call ur_G (d + 1) 172 [.ref (b + 33), .int 0, .ref (b + a), .int 0] (s, f, g, R) = some (0, (s, f', g, R)) ∧ cM s R f' b l V N P E ∧ (∀ k, k < 29 → f' (b + a) k = f (b + 33) k) ∧ eqT (fun i _ => i = b + a) f f' := by
  have hM := h.oM
  have hs : s[b + a]? = some (.inr (0, 29)) := by
    rcases ha with rfl | rfl
    · exact hM.s34
    · exact hM.s35
  obtain ⟨f1, c1, c2, c3⟩ := t_copies (d := d) (f := f) (g := g) (R := R) (i0 := 0) (j0 := 0) hM.s33 hs (by decide) (by decide) (by decide) (by decide) (show b + 33 ≠ b + a by omega)
  have t : eqT (fun i _ => i = b + a) f f1 := c3.mono (fun _ _ z => z.1)
  refine ⟨f1, c1, h.fr t (fun i k h1 h2 z => by omega) ?_, fun k hk => ?_, t⟩
  · rw [t.row (fun k z => by omega)]
    exact h.hn
  · have := c2 k hk
    rw [Nat.zero_add] at this
    exact this
theorem m_rest {a : Nat} {f0 f1 : Nat → Nat → Int32} (hM : oModel s R b) (ha : a = 34 ∨ a = 35) (hs : ∀ k, k < 29 → f1 (b + a) k = f0 (b + 33) k) (t1 : eqT (SR b) f0 f1) (t : eqT (TM b) f1 f) : ∃ f', ur_call ur_G (d + 1) 172 [.ref (b + a), .int 0, .ref (b + 33), .int 0] (s, f, g, R) = some (0, (s, f', g, R)) ∧ eqT (SR b) f0 f' := by
  have hs' : s[b + a]? = some (.inr (0, 29)) := by
    rcases ha with rfl | rfl
    · exact hM.s34
    · exact hM.s35
  obtain ⟨f2, c1, c2, c3⟩ := t_copies (d := d) (f := f) (g := g) (R := R) (i0 := 0) (j0 := 0) hs' hM.s33 (by decide) (by decide) (by decide) (by decide) (show b + a ≠ b + 33 by omega)
  refine ⟨f2, c1, fun i k hn => ?_⟩
  by_cases h : i = b + 33 ∧ k < 29
  · obtain ⟨rfl, hk⟩ := h
    have := c2 k hk
    rw [Nat.zero_add] at this
    rw [this, t.row (fun k z => by unfold TM at z; omega), hs k hk]
  · rw [c3 i k (fun z => h ⟨z.1, by omega⟩), t i k (fun z => by unfold TM at z; unfold SR at hn; omega), t1 i k hn]
theorem m_hostOf (h : cM s R f b l V N P E) (hj : j < N) (hu : bt (l 0 9) j = true) : ur_call ur_G (d + 2) 186 [.ref b, .int (nI j)] (s, f, g, R) = some (fsP (fun q => decide (V 1 q = nI j)) P 0, (s, f, g, R)) := by
  have := t_hostOf (d := d) (g := g) (r := nI j) h.oM h.ep h.p5
  rw [show fsP (fun p => !decide (f (b + 33) (14 + p) < 0) && decide (f (b + 33) (4 + p) = nI j)) P 0 = fsP (fun q => decide (V 1 q = nI j)) P 0 from r_host h.hl h.hn hj hu] at this
  exact this
theorem m_later (h : cM s R f b l V N P E) (hp : p < P) (hk : k ≤ 60) : ∃ f', ur_call ur_G (d + 6) 216 [.ref b, .int (nI p), .int (nI k)] (s, f, g, R) = some (laV l P V k 1 p, (s, f', g, R)) ∧ eqT (SR b) f f' := by
  have hM := h.oM
  have h5 := h.p5
  have h0 := m_thr h
  obtain ⟨f1, c1, c2, c3, c4⟩ := m_save (d := d + 4) (g := g) (a := 35) h0 (Or.inr rfl)
  have t1 : eqT (SR b) f f1 := (eqT_u SR_0).trans (c4.mono (fun i k z => by unfold SR; omega))
  have main := lp (n := k) (Fn := fun j (f' : Nat → Nat → Int32) => ur_at ur_G (d + 5) 216 (40, [some (.ref b), some (.int (nI p)), some (.int (nI k)), some (.int (nI j))], [], (s, f', g, R)))
    (I := fun j f' => cM s R f' b l (laV l P V j) N P E ∧ eqT (TM b) f1 f')
    (Q := fun r => r.1 = laV l P V k 1 p ∧ ∃ f', r.2 = (s, f', g, R) ∧ eqT (SR b) f f') ?_ ?_ f1 ⟨c2, eqT.refl⟩
  · obtain ⟨⟨v, m⟩, e1, e2, f', e3, e4⟩ := main
    dsimp only at e2 e3
    subst e2 e3
    refine ⟨f', ur_cl hM.rcv rfl (e_X10_later_0 _ _ _ _ ?_), e4⟩
    simp only [hM.pI, Option.bind_some, t_isPerson hM h0.ep, inR_in hp (show P < 2 ^ 31 by omega), ub_0, Bool.not_true, cond_false, t_within, decide_eq_false (nI_pos (show k < 2 ^ 31 by omega)), show decide ((60 : Int32) < nI k) = false from decide_eq_false (nI_nlt (a := 60) hk (by decide)), Bool.not_false, Bool.and_self, ub_n0, cond_true, hM.r44, hM.r46, c1]
    exact e1
  · intro j f2 hj ⟨i1, i2⟩
    obtain ⟨f3, d1, d2, d3⟩ := m_passes (d := d) (g := g) i1
    refine ⟨f3, ⟨d2, i2.trans d3⟩, fun r hr => e_X10_later_40 _ _ _ _ _ ?_⟩
    simp only [d_le (show k < 2 ^ 31 by omega) (show j < 2 ^ 31 by omega), decide_eq_false (show ¬ k ≤ j by omega), cond_false, d1, Option.bind_some, nI_1]
    exact hr
  · intro f2 ⟨i1, i2⟩
    obtain ⟨f3, d1, d2⟩ := m_rest (d := d + 4) (g := g) (a := 35) hM (Or.inr rfl) (f0 := f) (f1 := f1) (fun k hk => by rw [c3 k hk, ur_ua (by omega)]) t1 i2
    refine ⟨(laV l P V k 1 p, (s, f3, g, R)), e_X10_later_40 _ _ _ _ _ ?_, rfl, f3, rfl, d2⟩
    simp only [d_le (show k < 2 ^ 31 by omega) (show k < 2 ^ 31 by omega), Nat.le_refl, decide_true, cond_true, hM.r44, Option.bind_some, show (4 : Int32) + nI p = nI (4 + p) from nI_add 4 p, hM.a33 (show 4 + p < 29 by omega), hM.r46, d1, (i1.hn.2.1 p hp).1]
theorem m_later_out (h : cM s R f b l V N P E) (hq : inR x P = false ∨ inR y 61 = false) : ur_call ur_G (d + 6) 216 [.ref b, .int x, .int y] (s, f, g, R) = some (-1, (s, ur_u f b 0 0, g, R)) := by
  have hM := h.oM
  have h0 := m_thr h
  refine ur_cl hM.rcv rfl (e_X10_later_0 _ _ _ _ ?_)
  simp only [hM.pI, Option.bind_some, t_isPerson hM h0.ep, ub_0, t_within, show (60 : Int32) = nI 60 from rfl, inR_w (show 60 + 1 < 2 ^ 31 by decide), ub_n0]
  rcases hq with hq | hq
  · rw [hq]; rfl
  · rw [hq]; cases inR x P <;> rfl
theorem m_freesOf (h : cM s R f b l V N P E) (hj : j < N) (hu : bt (l 0 9) j = true) : ∃ f', ur_call ur_G (d + 6) 214 [.ref b, .int (nI j)] (s, f, g, R) = some (fsT (freeT P j) l P 61 0 V, (s, f', g, R)) ∧ eqT (SR b) f f' := by
  have hM := h.oM
  have h5 := h.p5
  obtain ⟨f1, c1, c2, c3, c4⟩ := m_save (d := d + 4) (g := g) (a := 35) h (Or.inr rfl)
  have t1 : eqT (SR b) f f1 := c4.mono (fun i k z => by unfold SR; omega)
  have fin : ∀ (v : Nat) f2, v ≤ 61 → eqT (TM b) f1 f2 → ∃ f3, ur_at ur_G (d + 5) 214 (40, [some (.ref b), none, some (.int (nI v))], [], (s, f2, g, R)) = some (bif decide (v ≤ 60) then nI v else -1, (s, f3, g, R)) ∧ eqT (SR b) f f3 := by
    intro v f2 hv t2
    obtain ⟨f3, d1, d2⟩ := m_rest (d := d + 4) (g := g) (a := 35) hM (Or.inr rfl) (f0 := f) (f1 := f1) c3 t1 t2
    refine ⟨f3, e_X10_freesOf_40 _ _ _ ?_, d2⟩
    simp only [hM.r46, hM.r44, Option.bind_some, d1, show decide (nI v ≤ (60 : Int32)) = decide (v ≤ 60) from d_le (b := 60) (by omega) (by decide)]
    cases decide (v ≤ 60) <;> rfl
  have key : ∀ (n k : Nat) (f2 V1 : Nat → Nat → Int32), n + k = 61 → cM s R f2 b l V1 N P E → eqT (TM b) f1 f2 → ∃ f3, ur_at ur_G (d + 5) 214 (15, [some (.ref b), some (.int (nI j)), some (.int (nI k))], [], (s, f2, g, R)) = some (fsT (freeT P j) l P n k V1, (s, f3, g, R)) ∧ eqT (SR b) f f3 := by
    intro n
    induction n with
    | zero =>
      intro k f2 V1 hk i1 i2
      obtain ⟨f3, d1, d2⟩ := fin k f2 (by omega) i2
      refine ⟨f3, e_X10_freesOf_15 _ _ _ _ ?_, d2⟩
      have : k = 61 := by omega
      subst this
      exact d1
    | succ n ih =>
      intro k f2 V1 hk i1 i2
      have hlt : decide ((60 : Int32) < nI k) = false := decide_eq_false (nI_nlt (a := 60) (b := k) (by omega) (by decide))
      have hh := m_hostOf (d := d + 3) (g := g) i1 hj hu
      have hneg := fsP_neg (Q := fun q => decide (V1 1 q = nI j)) P 0 (by omega)
      have hu : fsT (freeT P j) l P (n + 1) k V1 = bif freeT P j V1 then nI k else fsT (freeT P j) l P n (k + 1) (pasV l P V1).2 := rfl
      rw [hu]
      by_cases hf : fsP (fun q => decide (V1 1 q = nI j)) P 0 = -1
      · obtain ⟨f3, d1, d2⟩ := fin k f2 (by omega) i2
        rw [decide_eq_true (show k ≤ 60 by omega), cond_true] at d1
        refine ⟨f3, e_X10_freesOf_15 _ _ _ _ ?_, d2⟩
        unfold freeT
        simp only [hlt, cond_false, Option.bind_some, hh, hf, show decide ((-1 : Int32) < 0) = true from by decide, decide_true, cond_true]
        exact d1
      · obtain ⟨f3, d1, d2, d3⟩ := m_passes (d := d) (g := g) i1
        obtain ⟨f4, g1, g2⟩ := ih (k + 1) f3 _ (by omega) d2 (i2.trans d3)
        refine ⟨f4, e_X10_freesOf_15 _ _ _ _ ?_, g2⟩
        conv => rhs; unfold freeT
        have hlt2 : decide (fsP (fun q => decide (V1 1 q = nI j)) P 0 < 0) = false := by
          rw [decide_eq_true (show fsP (fun q => decide (V1 1 q = nI j)) P 0 ≠ -1 from hf)] at hneg
          exact decide_eq_false (fun z => absurd (Int32.lt_of_le_of_lt (of_decide_eq_true hneg) z) (by decide))
        simp only [hlt, cond_false, Option.bind_some, hh, hlt2, decide_eq_false hf, d1, nI_1]
        exact g1
  obtain ⟨f2, e1, e2⟩ := key 61 0 f1 V rfl c2 eqT.refl
  refine ⟨f2, ur_cl hM.rcv rfl (e_X10_freesOf_0 _ _ _ ?_), e2⟩
  simp only [hM.r44, hM.r46, Option.bind_some, c1]
  exact e1
theorem m_calm (h : cM s R f b l V N P E) : ∃ f', ur_call ur_G (d + 6) 218 [.ref b] (s, f, g, R) = some (fsT (calmT P) l P 61 0 V, (s, f', g, R)) ∧ eqT (SR b) f f' := by
  have hM := h.oM
  have h5 := h.p5
  have h0 := m_thr h
  obtain ⟨f1, c1, c2, c3, c4⟩ := m_save (d := d + 4) (g := g) (a := 35) h0 (Or.inr rfl)
  have t1 : eqT (SR b) f f1 := (eqT_u SR_0).trans (c4.mono (fun i k z => by unfold SR; omega))
  have fin : ∀ (v : Nat) f2, v ≤ 61 → eqT (TM b) f1 f2 → ∃ f3, ur_at ur_G (d + 5) 218 (44, [some (.ref b), some (.int (nI v))], [], (s, f2, g, R)) = some (bif decide (v ≤ 60) then nI v else -1, (s, f3, g, R)) ∧ eqT (SR b) f f3 := by
    intro v f2 hv t2
    obtain ⟨f3, d1, d2⟩ := m_rest (d := d + 4) (g := g) (a := 35) hM (Or.inr rfl) (f0 := f) (f1 := f1) (fun k hk => by rw [c3 k hk, ur_ua (by omega)]) t1 t2
    refine ⟨f3, e_X10_calm_44 _ _ _ ?_, d2⟩
    simp only [hM.r46, hM.r44, Option.bind_some, d1, show decide (nI v ≤ (60 : Int32)) = decide (v ≤ 60) from d_le (b := 60) (by omega) (by decide)]
    cases decide (v ≤ 60) <;> rfl
  have key : ∀ (n k : Nat) (f2 V1 : Nat → Nat → Int32), n + k = 61 → cM s R f2 b l V1 N P E → eqT (TM b) f1 f2 → ∃ f3, ur_at ur_G (d + 5) 218 (20, [some (.ref b), some (.int (nI k))], [], (s, f2, g, R)) = some (fsT (calmT P) l P n k V1, (s, f3, g, R)) ∧ eqT (SR b) f f3 := by
    intro n
    induction n with
    | zero =>
      intro k f2 V1 hk i1 i2
      obtain ⟨f3, d1, d2⟩ := fin k f2 (by omega) i2
      refine ⟨f3, e_X10_calm_20 _ _ _ ?_, d2⟩
      have : k = 61 := by omega
      subst this
      exact d1
    | succ n ih =>
      intro k f2 V1 hk i1 i2
      have hlt : decide ((60 : Int32) < nI k) = false := decide_eq_false (nI_nlt (a := 60) (b := k) (by omega) (by decide))
      have hh := t_insiders (d := d + 3) (f := f2) (g := g) hM i1.ep i1.p5
      rw [show sB (fun p => !decide (f2 (b + 33) (14 + p) < 0)) P = sB (fun p => !decide (V1 2 p = -1)) P from r_ins i1.hn] at hh
      have hu : fsT (calmT P) l P (n + 1) k V1 = bif calmT P V1 then nI k else fsT (calmT P) l P n (k + 1) (pasV l P V1).2 := rfl
      rw [hu]
      cases hf : calmT P V1 with
      | true =>
        obtain ⟨f3, d1, d2⟩ := fin k f2 (by omega) i2
        rw [decide_eq_true (show k ≤ 60 by omega), cond_true] at d1
        refine ⟨f3, e_X10_calm_20 _ _ _ ?_, d2⟩
        unfold calmT at hf
        simp only [hlt, cond_false, Option.bind_some, hh, hf, cond_true]
        exact d1
      | false =>
        obtain ⟨f3, d1, d2, d3⟩ := m_passes (d := d) (g := g) i1
        obtain ⟨f4, g1, g2⟩ := ih (k + 1) f3 _ (by omega) d2 (i2.trans d3)
        refine ⟨f4, e_X10_calm_20 _ _ _ ?_, g2⟩
        unfold calmT at hf
        simp only [hlt, cond_false, Option.bind_some, hh, hf, d1, nI_1]
        exact g1
  obtain ⟨f2, e1, e2⟩ := key 61 0 f1 V rfl c2 eqT.refl
  refine ⟨f2, ur_cl hM.rcv rfl (e_X10_calm_0 _ _ ?_), e2⟩
  simp only [hM.pI, hM.r44, hM.r46, Option.bind_some, c1]
  exact e1
theorem m_inside (h : cM s R f b l V N P E) (hp : p < P) : ur_call ur_G (d + 1) 185 [.ref b, .int (nI p)] (s, f, g, R) = some (ur_b (inV V p), (s, f, g, R)) := by
  have h5 := h.p5
  have := t_isInside (d := d) (f := f) (g := g) h.oM (show p < 5 by omega)
  rw [show (!decide (f (b + 33) (14 + p) < 0)) = inV V p from r_in h.hn hp] at this
  exact this
theorem m_out (h : cM s R f b l V N P E) (hp : p < P) (hin : inV V p = true) : ∃ f', ur_call ur_G (d + 6) 217 [.ref b, .int (nI p)] (s, f, g, R) = some (fsT (outT p) l P 61 0 V, (s, f', g, R)) ∧ eqT (SR b) f f' := by
  have hM := h.oM
  have h5 := h.p5
  have h0 := m_thr h
  obtain ⟨f1, c1, c2, c3, c4⟩ := m_save (d := d + 4) (g := g) (a := 35) h0 (Or.inr rfl)
  have t1 : eqT (SR b) f f1 := (eqT_u SR_0).trans (c4.mono (fun i k z => by unfold SR; omega))
  have fin : ∀ (v : Nat) f2, v ≤ 61 → eqT (TM b) f1 f2 → ∃ f3, ur_at ur_G (d + 5) 217 (63, [some (.ref b), none, some (.int (nI v))], [], (s, f2, g, R)) = some (bif decide (v ≤ 60) then nI v else -1, (s, f3, g, R)) ∧ eqT (SR b) f f3 := by
    intro v f2 hv t2
    obtain ⟨f3, d1, d2⟩ := m_rest (d := d + 4) (g := g) (a := 35) hM (Or.inr rfl) (f0 := f) (f1 := f1) (fun k hk => by rw [c3 k hk, ur_ua (by omega)]) t1 t2
    refine ⟨f3, e_X10_out_63 _ _ _ ?_, d2⟩
    simp only [hM.r46, hM.r44, Option.bind_some, d1, show decide (nI v ≤ (60 : Int32)) = decide (v ≤ 60) from d_le (b := 60) (by omega) (by decide)]
    cases decide (v ≤ 60) <;> rfl
  have key : ∀ (n k : Nat) (f2 V1 : Nat → Nat → Int32), n + k = 61 → cM s R f2 b l V1 N P E → eqT (TM b) f1 f2 → ∃ f3, ur_at ur_G (d + 5) 217 (38, [some (.ref b), some (.int (nI p)), some (.int (nI k))], [], (s, f2, g, R)) = some (fsT (outT p) l P n k V1, (s, f3, g, R)) ∧ eqT (SR b) f f3 := by
    intro n
    induction n with
    | zero =>
      intro k f2 V1 hk i1 i2
      obtain ⟨f3, d1, d2⟩ := fin k f2 (by omega) i2
      refine ⟨f3, e_X10_out_38 _ _ _ _ ?_, d2⟩
      have : k = 61 := by omega
      subst this
      exact d1
    | succ n ih =>
      intro k f2 V1 hk i1 i2
      have hlt : decide ((60 : Int32) < nI k) = false := decide_eq_false (nI_nlt (a := 60) (b := k) (by omega) (by decide))
      have hh := m_inside (d := d + 4) (g := g) i1 hp
      have hu : fsT (outT p) l P (n + 1) k V1 = bif outT p V1 then nI k else fsT (outT p) l P n (k + 1) (pasV l P V1).2 := rfl
      rw [hu]
      cases hf : outT p V1 with
      | true =>
        obtain ⟨f3, d1, d2⟩ := fin k f2 (by omega) i2
        rw [decide_eq_true (show k ≤ 60 by omega), cond_true] at d1
        refine ⟨f3, e_X10_out_38 _ _ _ _ ?_, d2⟩
        unfold outT at hf
        simp only [hlt, cond_false, Option.bind_some, hh, ub_0, inV, hf, Bool.not_true, Bool.not_false, cond_true]
        exact d1
      | false =>
        obtain ⟨f3, d1, d2, d3⟩ := m_passes (d := d) (g := g) i1
        obtain ⟨f4, g1, g2⟩ := ih (k + 1) f3 _ (by omega) d2 (i2.trans d3)
        refine ⟨f4, e_X10_out_38 _ _ _ _ ?_, g2⟩
        unfold outT at hf
        simp only [hlt, cond_false, Option.bind_some, hh, ub_0, inV, hf, Bool.not_true, Bool.not_false, d1, nI_1]
        exact g1
  obtain ⟨f2, e1, e2⟩ := key 61 0 f1 V rfl c2 eqT.refl
  refine ⟨f2, ur_cl hM.rcv rfl (e_X10_out_0 _ _ _ ?_), e2⟩
  simp only [hM.pI, Option.bind_some, t_isPerson hM h0.ep, inR_in hp (show P < 2 ^ 31 by omega), ub_0, Bool.not_true, cond_false, m_inside h0 hp, hin, ub_n0, cond_true, hM.r44, hM.r46, c1]
  exact e1
theorem m_out_out (h : cM s R f b l V N P E) (hq : inR x P = false ∨ ∃ p, p < P ∧ x = nI p ∧ inV V p = false) : ur_call ur_G (d + 6) 217 [.ref b, .int x] (s, f, g, R) = some (-1, (s, ur_u f b 0 0, g, R)) := by
  have hM := h.oM
  have h5 := h.p5
  have h0 := m_thr h
  refine ur_cl hM.rcv rfl (e_X10_out_0 _ _ _ ?_)
  rcases hq with hq | ⟨p, hp, rfl, hin⟩
  · simp only [hM.pI, Option.bind_some, t_isPerson hM h0.ep, hq, ub_0]
    rfl
  · simp only [hM.pI, Option.bind_some, t_isPerson hM h0.ep, inR_in hp (show P < 2 ^ 31 by omega), ub_0, Bool.not_true, cond_false, m_inside h0 hp, hin, ub_n0]
end URTM

/-! Calls that look ahead: later, frees, out, calm -/
/-- the class's scratch; the reference's -/
def SX : Nat → Nat → Prop := fun a k => (39 ≤ a ∧ a < 45) ∨ TL 3 a k ∨ TL 14 a k ∨ (50 ≤ a ∧ a < 54) ∨ a = 55
def SR (b : Nat) : Nat → Nat → Prop := fun a k => (a = b ∧ (k = 0 ∨ k = 53)) ∨ (b + 15 ≤ a ∧ a < b + 25) ∨ (a = b + 33 ∧ 29 ≤ k) ∨ a = b + 34 ∨ a = b + 35 ∨ (b + 39 ≤ a ∧ a < b + 43)
/-- one run of the class: object, land, night; law; borne out by some reference -/
def xC (s : List (Nat ⊕ (Nat × Nat))) (R : Nat → Nat → Option Nat) (f : Nat → Nat → Int32) (L L' K K' : Nat) (l V : Nat → Nat → Int32) (N P : Nat) (E : Int32 → Int32 → Int32 → Int32 → Int32) : Prop :=
  oX s R L L' K K' ∧ cX s R f 33 L l V N P ∧ lwX l E ∧ wfV l V N P
theorem SX_L {L L' : Nat} (h : (L = 3 ∧ L' = 14) ∨ (L = 14 ∧ L' = 3)) : ∀ a k, L ≤ a → a < L + 11 → SX a k → TL L a k := fun a k h1 h2 h3 => by
  unfold SX TL at h3
  unfold TL
  omega
theorem TN_SX : ∀ a k, TN 39 a k → SX a k := fun a k h => by unfold TN at h; unfold SX; omega
theorem TNL_SX {L L' : Nat} (h : (L = 3 ∧ L' = 14) ∨ (L = 14 ∧ L' = 3)) : ∀ a k, TNL 39 L a k → SX a k := fun a k h1 => by
  unfold TNL TN TL at h1
  unfold SX TL
  omega
theorem TL_SX {L L' : Nat} (h : (L = 3 ∧ L' = 14) ∨ (L = 14 ∧ L' = 3)) : ∀ a k, TL L a k → SX a k := fun a k h1 => by
  unfold TL at h1
  unfold SX TL
  omega
section URT
variable {s : List (Nat ⊕ (Nat × Nat))} {f l V : Nat → Nat → Int32} {g : Nat → Nat → Int64} {R : Nat → Nat → Option Nat} {L L' K K' d j p P N w q k : Nat} {r x y : Int32} {E : Int32 → Int32 → Int32 → Int32 → Int32}
/-- the trial begins as it is now -/
theorem x_trial (h : xC s R f L L' K K' l V N P E) : ∃ V' f', reqv V V' ∧ ur_call ur_G (d + 1) 41 [.ref 39, .ref 33] (s, f, g, R) = some (0, (s, f', g, R)) ∧ cX s R f' 39 L l V' N P ∧ wfV l V' N P ∧ eqT SX f f' := by
  obtain ⟨hX, hc, hE, hw⟩ := h
  obtain ⟨f1, c1, c2, c3⟩ := c_copy (d := d) (f := f) (g := g) hX.tri hX.now (Or.inr (by decide))
  have hv : reqv V (blk f1 39) := by
    refine ⟨fun i k h1 h2 h3 => ?_, fun k h1 h2 => ?_⟩
    · rw [c2.1 i k h1 h2 h3]
      show f (33 + i) k = V i k
      rw [hc.bn i (by omega)]
    · rw [c2.2 k h1 h2]
      show f (33 + 0) k = V 0 k
      rw [hc.bn 0 (by omega)]
  have hd := hc.dd
  refine ⟨blk f1 39, f1, hv, c1, ⟨hX.tri, hc.oL, bN_blk, hc.bl.fr c3 (fun a k h1 h2 h3 => by unfold TN at h3; omega), by omega, hc.2.2.2.2.2⟩, hw.eqv hv, c3.mono TN_SX⟩
theorem x_pas (hX : oX s R L L' K K') (hc : cX s R f 39 L l V N P) (hw : wfV l V N P) : ∃ f', ur_call ur_G (d + 4) 58 [.ref 39, .ref L] (s, f, g, R) = some ((pasV l P V).1, (s, f', g, R)) ∧ cX s R f' 39 L l (pasV l P V).2 N P ∧ wfV l (pasV l P V).2 N P ∧ eqT SX f f' := by
  obtain ⟨f1, c1, c2, c3⟩ := c_passMinute (d := d) (g := g) hc hw.ok
  exact ⟨f1, c1, hc.fr c3 c2 (TNL_L hc.dd), hw.pas, c3.mono (TNL_SX hX.eL)⟩
theorem x_later (h : xC s R f L L' K K' l V N P E) (hp : p < P) (hk : k ≤ 60) : ∃ V' f', reqv V V' ∧ ur_call ur_G (d + 6) 99 [.ref 0, .int (nI p), .int (nI k)] (s, f, g, R) = some (laV l P V' k 1 p, (s, f', g, R)) ∧ eqT SX f f' := by
  obtain ⟨V', f1, hv, c1, c2, c3, c4⟩ := x_trial (d := d + 4) (g := g) h
  obtain ⟨hX, hc, hE, hw⟩ := h
  have h5 := hw.p5
  have main := lp (n := k) (Fn := fun j (f' : Nat → Nat → Int32) => ur_at ur_G (d + 5) 99 (36, [some (.ref 0), some (.int (nI p)), some (.int (nI k)), some (.int (nI j))], [], (s, f', g, R)))
    (I := fun j f' => cX s R f' 39 L l (laV l P V' j) N P ∧ wfV l (laV l P V' j) N P ∧ eqT SX f f')
    (Q := fun r => r.1 = laV l P V' k 1 p ∧ ∃ f', r.2 = (s, f', g, R) ∧ eqT SX f f') ?_ ?_ f1 ⟨c2, c3, c4⟩
  · obtain ⟨⟨v, m⟩, e1, e2, f', e3, e4⟩ := main
    dsimp only at e2 e3
    subst e2 e3
    refine ⟨V', f', hv, ur_cl hX.rcv rfl (e_X9_later_0 _ _ _ _ ?_), e4⟩
    simp only [hX.r1, Option.bind_some, s_hasPerson hc.oL hc.ep, inR_in hp (show P < 2 ^ 31 by omega), ub_0, Bool.not_true, cond_false, decide_eq_false (nI_pos (show k < 2 ^ 31 by omega)), show decide (nI k ≤ (60 : Int32)) = true from decide_eq_true (nI_le (b := 60) hk (by decide)), cond_true, hX.r6, hX.r5, c1]
    exact e1
  · intro j f2 hj ⟨i1, i2, i3⟩
    obtain ⟨f3, d1, d2, d3, d4⟩ := x_pas (d := d + 1) (g := g) hX i1 i2
    refine ⟨f3, ⟨d2, d3, i3.trans d4⟩, fun r hr => e_X9_later_36 _ _ _ _ _ ?_⟩
    simp only [d_le (show k < 2 ^ 31 by omega) (show j < 2 ^ 31 by omega), decide_eq_false (show ¬ k ≤ j by omega), cond_false, hX.r6, hX.r1, Option.bind_some, d1, nI_1]
    exact hr
  · intro f2 ⟨i1, i2, i3⟩
    refine ⟨(laV l P V' k 1 p, (s, f2, g, R)), e_X9_later_36 _ _ _ _ _ ?_, rfl, f2, rfl, i3⟩
    simp only [d_le (show k < 2 ^ 31 by omega) (show k < 2 ^ 31 by omega), Nat.le_refl, decide_true, cond_true, hX.r6, Option.bind_some, hX.tri.r0, hX.tri.a1 (show p < 5 by omega), i1.bn 1 (by decide)]
theorem x_later_out (h : xC s R f L L' K K' l V N P E) (hq : inR x P = false ∨ inR y 61 = false) : ur_call ur_G (d + 6) 99 [.ref 0, .int x, .int y] (s, f, g, R) = some (-1, (s, f, g, R)) := by
  obtain ⟨hX, hc, hE, hw⟩ := h
  refine ur_cl hX.rcv rfl (e_X9_later_0 _ _ _ _ ?_)
  simp only [hX.r1, Option.bind_some, s_hasPerson hc.oL hc.ep, ub_0]
  rcases hq with hq | hq
  · rw [hq]; rfl
  · cases inR x P with
    | false => rfl
    | true =>
      simp only [Bool.not_true, cond_false]
      unfold inR at hq
      cases h0 : decide (y < 0) with
      | true => rfl
      | false =>
        rw [h0] at hq
        have : decide (y ≤ 60) = false := by
          apply decide_eq_false
          intro z
          have hy : nI 61 ≤ y := by
            apply Classical.byContradiction
            intro z2
            rw [decide_eq_false z2] at hq
            cases hq
          exact absurd (Int32.le_trans hy z) (by decide)
        rw [this]
        rfl
theorem x_host (hX : oX s R L L' K K') (hc : cX s R f 39 L l V N P) : ur_call ur_G (d + 2) 46 [.ref 39, .ref L, .int (nI j)] (s, f, g, R) = some (fsP (fun q => decide (V 1 q = nI j)) P 0, (s, f, g, R)) := by
  have := s_hostOf (d := d) (g := g) (r := nI j) hc.oN hc.oL hc.ep hc.p5
  rw [hc.bn 1 (by decide)] at this
  exact this
/-- free: nobody is there -/
def freeT (P j : Nat) (V : Nat → Nat → Int32) : Bool := decide (fsP (fun q => decide (V 1 q = nI j)) P 0 = -1)
def calmT (P : Nat) (V : Nat → Nat → Int32) : Bool := decide (sB (fun p => !decide (V 2 p = -1)) P = 0)
def outT (p : Nat) (V : Nat → Nat → Int32) : Bool := decide (V 2 p = -1)
theorem x_frees (h : xC s R f L L' K K' l V N P E) (hj : j < N) : ∃ V' f', reqv V V' ∧ ur_call ur_G (d + 6) 98 [.ref 0, .int (nI j)] (s, f, g, R) = some (fsT (freeT P j) l P 61 0 V', (s, f', g, R)) ∧ eqT SX f f' := by
  obtain ⟨V', f1, hv, c1, c2, c3, c4⟩ := x_trial (d := d + 4) (g := g) h
  obtain ⟨hX, hc, hE, hw⟩ := h
  have key : ∀ (n k : Nat) (f1 V1 : Nat → Nat → Int32), n + k = 61 → cX s R f1 39 L l V1 N P → wfV l V1 N P → eqT SX f f1 → ∃ f2, ur_at ur_G (d + 5) 98 (13, [some (.ref 0), some (.int (nI j)), some (.int (nI k))], [], (s, f1, g, R)) = some (fsT (freeT P j) l P n k V1, (s, f2, g, R)) ∧ eqT SX f f2 := by
    intro n
    induction n with
    | zero =>
      intro k f1 V1 hk i1 i2 i3
      refine ⟨f1, e_X9_minutesTillFree_13 _ _ _ _ ?_, i3⟩
      have : k = 61 := by omega
      subst this
      rfl
    | succ n ih =>
      intro k f1 V1 hk i1 i2 i3
      have hlt : decide ((60 : Int32) < nI k) = false := decide_eq_false (nI_nlt (a := 60) (b := k) (by omega) (by decide))
      have hh := x_host (d := d + 3) (g := g) (j := j) hX i1
      have hu : fsT (freeT P j) l P (n + 1) k V1 = bif freeT P j V1 then nI k else fsT (freeT P j) l P n (k + 1) (pasV l P V1).2 := rfl
      rw [hu]
      by_cases hf : fsP (fun q => decide (V1 1 q = nI j)) P 0 = -1
      · refine ⟨f1, e_X9_minutesTillFree_13 _ _ _ _ ?_, i3⟩
        unfold freeT
        simp only [hlt, cond_false, hX.r6, hX.r1, Option.bind_some, hh, decide_eq_true hf, decide_eq_false (show ¬ fsP (fun q => decide (V1 1 q = nI j)) P 0 ≠ -1 from fun z => z hf), cond_true]
      · obtain ⟨f3, d1, d2, d3, d4⟩ := x_pas (d := d + 1) (g := g) hX i1 i2
        obtain ⟨f4, g1, g2⟩ := ih (k + 1) f3 _ (by omega) d2 d3 (i3.trans d4)
        refine ⟨f4, e_X9_minutesTillFree_13 _ _ _ _ ?_, g2⟩
        conv => rhs; unfold freeT
        simp only [hlt, cond_false, hX.r6, hX.r1, Option.bind_some, hh, decide_eq_false hf, decide_eq_true (show fsP (fun q => decide (V1 1 q = nI j)) P 0 ≠ -1 from hf), cond_true, d1, nI_1]
        exact g1
  obtain ⟨f2, e1, e2⟩ := key 61 0 f1 V' rfl c2 c3 c4
  refine ⟨V', f2, hv, ur_cl hX.rcv rfl (e_X9_minutesTillFree_0 _ _ _ ?_), e2⟩
  simp only [hX.r6, hX.r5, Option.bind_some, c1]
  exact e1
theorem x_calm (h : xC s R f L L' K K' l V N P E) : ∃ V' f', reqv V V' ∧ ur_call ur_G (d + 6) 101 [.ref 0] (s, f, g, R) = some (fsT (calmT P) l P 61 0 V', (s, f', g, R)) ∧ eqT SX f f' := by
  obtain ⟨V', f1, hv, c1, c2, c3, c4⟩ := x_trial (d := d + 4) (g := g) h
  obtain ⟨hX, hc, hE, hw⟩ := h
  have key : ∀ (n k : Nat) (f1 V1 : Nat → Nat → Int32), n + k = 61 → cX s R f1 39 L l V1 N P → wfV l V1 N P → eqT SX f f1 → ∃ f2, ur_at ur_G (d + 5) 101 (13, [some (.ref 0), some (.int (nI k))], [], (s, f1, g, R)) = some (fsT (calmT P) l P n k V1, (s, f2, g, R)) ∧ eqT SX f f2 := by
    intro n
    induction n with
    | zero =>
      intro k f1 V1 hk i1 i2 i3
      refine ⟨f1, e_X9_calm_13 _ _ _ ?_, i3⟩
      have : k = 61 := by omega
      subst this
      rfl
    | succ n ih =>
      intro k f1 V1 hk i1 i2 i3
      have hlt : decide ((60 : Int32) < nI k) = false := decide_eq_false (nI_nlt (a := 60) (b := k) (by omega) (by decide))
      have hh := s_allInside (d := d + 3) (g := g) i1.oN i1.oL i1.ep i1.p5
      rw [i1.bn 2 (by decide)] at hh
      have hu : fsT (calmT P) l P (n + 1) k V1 = bif calmT P V1 then nI k else fsT (calmT P) l P n (k + 1) (pasV l P V1).2 := rfl
      rw [hu]
      by_cases hf : sB (fun p => !decide (V1 2 p = -1)) P = 0
      · refine ⟨f1, e_X9_calm_13 _ _ _ ?_, i3⟩
        unfold calmT
        simp only [hlt, cond_false, hX.r6, hX.r1, Option.bind_some, hh, decide_eq_true hf, decide_eq_false (show ¬ sB (fun p => !decide (V1 2 p = -1)) P ≠ 0 from fun z => z hf), cond_true]
      · obtain ⟨f3, d1, d2, d3, d4⟩ := x_pas (d := d + 1) (g := g) hX i1 i2
        obtain ⟨f4, g1, g2⟩ := ih (k + 1) f3 _ (by omega) d2 d3 (i3.trans d4)
        refine ⟨f4, e_X9_calm_13 _ _ _ ?_, g2⟩
        conv => rhs; unfold calmT
        simp only [hlt, cond_false, hX.r6, hX.r1, Option.bind_some, hh, decide_eq_false hf, decide_eq_true (show sB (fun p => !decide (V1 2 p = -1)) P ≠ 0 from hf), cond_true, d1, nI_1]
        exact g1
  obtain ⟨f2, e1, e2⟩ := key 61 0 f1 V' rfl c2 c3 c4
  refine ⟨V', f2, hv, ur_cl hX.rcv rfl (e_X9_calm_0 _ _ ?_), e2⟩
  simp only [hX.r6, hX.r5, Option.bind_some, c1]
  exact e1
theorem x_out (h : xC s R f L L' K K' l V N P E) (hp : p < P) (hin : inV V p = true) : ∃ V' f', reqv V V' ∧ ur_call ur_G (d + 6) 100 [.ref 0, .int (nI p)] (s, f, g, R) = some (fsT (outT p) l P 61 0 V', (s, f', g, R)) ∧ eqT SX f f' := by
  obtain ⟨V', f1, hv, c1, c2, c3, c4⟩ := x_trial (d := d + 4) (g := g) h
  obtain ⟨hX, hc, hE, hw⟩ := h
  have h5 := hw.p5
  have key : ∀ (n k : Nat) (f1 V1 : Nat → Nat → Int32), n + k = 61 → cX s R f1 39 L l V1 N P → wfV l V1 N P → eqT SX f f1 → ∃ f2, ur_at ur_G (d + 5) 100 (37, [some (.ref 0), some (.int (nI p)), some (.int (nI k))], [], (s, f1, g, R)) = some (fsT (outT p) l P n k (pasV l P V1).2, (s, f2, g, R)) ∧ eqT SX f f2 := by
    intro n
    induction n with
    | zero =>
      intro k f1 V1 hk i1 i2 i3
      refine ⟨f1, e_X9_out_37 _ _ _ _ ?_, i3⟩
      have : k = 61 := by omega
      subst this
      rfl
    | succ n ih =>
      intro k f1 V1 hk i1 i2 i3
      have hlt : decide ((60 : Int32) < nI k) = false := decide_eq_false (nI_nlt (a := 60) (b := k) (by omega) (by decide))
      obtain ⟨f3, d1, d2, d3, d4⟩ := x_pas (d := d + 1) (g := g) hX i1 i2
      have hh := s_isInside (d := d + 4) (f := f3) (g := g) d2.oN (show p < 5 by omega)
      rw [d2.bn 2 (by decide)] at hh
      have hu : fsT (outT p) l P (n + 1) k (pasV l P V1).2 = bif outT p (pasV l P V1).2 then nI k else fsT (outT p) l P n (k + 1) (pasV l P (pasV l P V1).2).2 := rfl
      rw [hu]
      cases hf : outT p (pasV l P V1).2 with
      | true =>
        refine ⟨f3, e_X9_out_37 _ _ _ _ ?_, i3.trans d4⟩
        unfold outT at hf
        simp only [hlt, cond_false, hX.r6, hX.r1, Option.bind_some, d1, hh, ub_n0, hf, Bool.not_true, cond_true]
      | false =>
        obtain ⟨f4, g1, g2⟩ := ih (k + 1) f3 _ (by omega) d2 d3 (i3.trans d4)
        refine ⟨f4, e_X9_out_37 _ _ _ _ ?_, g2⟩
        unfold outT at hf
        simp only [hlt, cond_false, hX.r6, hX.r1, Option.bind_some, d1, hh, ub_n0, hf, Bool.not_false, cond_true, nI_1]
        exact g1
  obtain ⟨f2, e1, e2⟩ := key 60 1 f1 V' rfl c2 c3 c4
  have hin' : outT p V' = false := by
    unfold outT
    unfold inV at hin
    rw [hv.1 2 p (by decide) (by decide) (by omega)]
    cases hq : decide (V 2 p = -1) with
    | false => rfl
    | true => rw [hq] at hin; cases hin
  refine ⟨V', f2, hv, ur_cl hX.rcv rfl (e_X9_out_0 _ _ _ ?_), e2⟩
  have hh := s_isInside (d := d + 4) (f := f) (g := g) hX.now (show p < 5 by omega)
  rw [hc.bn 2 (by decide)] at hh
  unfold inV at hin
  simp only [hX.r1, Option.bind_some, s_hasPerson hc.oL hc.ep, inR_in hp (show P < 2 ^ 31 by omega), ub_0, Bool.not_true, cond_false, hX.r5, hh, ub_n0, hin, cond_true, hX.r6, c1]
  rw [show fsT (outT p) l P 61 0 V' = bif outT p V' then nI 0 else fsT (outT p) l P 60 1 (pasV l P V').2 from rfl, hin', cond_false]
  exact e1
theorem x_out_out (h : xC s R f L L' K K' l V N P E) (hq : inR x P = false ∨ ∃ p, p < P ∧ x = nI p ∧ inV V p = false) : ur_call ur_G (d + 6) 100 [.ref 0, .int x] (s, f, g, R) = some (-1, (s, f, g, R)) := by
  obtain ⟨hX, hc, hE, hw⟩ := h
  have h5 := hw.p5
  refine ur_cl hX.rcv rfl (e_X9_out_0 _ _ _ ?_)
  rcases hq with hq | ⟨p, hp, rfl, hin⟩
  · simp only [hX.r1, Option.bind_some, s_hasPerson hc.oL hc.ep, hq, ub_0]
    rfl
  · have hh := s_isInside (d := d + 4) (f := f) (g := g) hX.now (show p < 5 by omega)
    rw [hc.bn 2 (by decide)] at hh
    unfold inV at hin
    simp only [hX.r1, Option.bind_some, s_hasPerson hc.oL hc.ep, inR_in hp (show P < 2 ^ 31 by omega), ub_0, Bool.not_true, cond_false, hX.r5, hh, ub_n0, hin]
end URT

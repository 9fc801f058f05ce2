/-! which, ask, on both sides -/
def asW (st : Nat → Nat → Nat) (sp sm : Nat → Nat) (so : Nat → Bool) (r z : Nat) : Bool := itr (fun i (c : Bool) => c && (decide (st (sp i) r = sm i) == so i)) z true
def wcV (U : Int32) (N : Nat) (st : Nat → Nat → Nat) (sp sm : Nat → Nat) (so : Nat → Bool) (z : Nat) : Int32 := sB (fun r => bt U r && asW st sp sm so r z) N
theorem asW_s {st : Nat → Nat → Nat} {sp sm : Nat → Nat} {so : Nat → Bool} {r z : Nat} : asW st sp sm so r (z + 1) = (asW st sp sm so r z && (decide (st (sp z) r = sm z) == so z)) := rfl
theorem asW_f {st : Nat → Nat → Nat} {sp sm : Nat → Nat} {so : Nat → Bool} {r i : Nat} (h : asW st sp sm so r i = false) : ∀ z, i ≤ z → asW st sp sm so r z = false
  | 0, hz => by rw [show i = 0 by omega] at h; exact h
  | z + 1, hz => by
    by_cases e : i = z + 1
    · rw [← e]; exact h
    · rw [asW_s, asW_f h z (by omega)]; rfl
theorem wc_step {U : Int32} {N : Nat} (hN : N ≤ 8) (a dd : Nat → Bool) (so : Bool) : (bif so then sB (fun r => bt U r && a r) N &&& sB (fun r => bt U r && dd r) N else sB (fun r => bt U r && a r) N &&& (sB (fun r => bt U r && dd r) N ^^^ (-1))) = sB (fun r => bt U r && (a r && (dd r == so))) N := by
  apply b_ext
  intro i hi
  cases so with
  | true =>
    show bt (_ &&& _) i = _
    rw [b_and, sB_bt _ N (by omega) i hi, sB_bt _ N (by omega) i hi, sB_bt _ N (by omega) i hi]
    cases decide (i < N) <;> cases bt U i <;> cases a i <;> cases dd i <;> rfl
  | false =>
    show bt (_ &&& (_ ^^^ (-1))) i = _
    rw [b_and, b_not hi, sB_bt _ N (by omega) i hi, sB_bt _ N (by omega) i hi, sB_bt _ N (by omega) i hi]
    cases decide (i < N) <;> cases bt U i <;> cases a i <;> cases dd i <;> rfl
def akS (mk : Nat → Nat) (p : Nat) (x : Int32 × Int32) : Int32 × Int32 := bif decide (x.1 ≤ nI (mk p)) then x else (nI (mk p), nI p)
def akV (mk : Nat → Nat) (c : Int32) (k : Nat) : Int32 × Int32 := itr (akS mk) k (c, -1)
section URAS
variable {s : List (Nat ⊕ (Nat × Nat))} {f f' f1 f2 l V V' : Nat → Nat → Int32} {g : Nat → Nat → Int64} {R : Nat → Nat → Option Nat} {L L' K K' d b j p P N w n k a i z m o : Nat} {x y c e X : Int32} {E : Int32 → Int32 → Int32 → Int32 → Int32} {sp sm : Nat → Nat} {so : Nat → Bool}
/-- what is seen, as both have it -/
def snJ (f : Nat → Nat → Int32) (z P : Nat) (sp sm : Nat → Nat) : Prop := ∀ i, i < z → sp i < P ∧ f 46 i = nI (sp i) ∧ f 238 i = nI (sp i) ∧ 1 ≤ sm i ∧ sm i ≤ 30 ∧ f 47 i = nI (sm i) ∧ f 239 i = nI (sm i) ∧ f 240 i = ur_b (bt (f 45 2) i)
theorem seR.ln (h : seR f 45 0 P) : ∃ z sp sm, z ≤ 8 ∧ f 45 3 = nI z ∧ f 237 0 = nI z ∧ snJ f z P sp sm := by
  obtain ⟨z, h1, h2, h3, h4⟩ := h
  have : ∀ i, ∃ t : Nat × Nat, i < z → t.1 < P ∧ f 46 i = nI t.1 ∧ f 238 i = nI t.1 ∧ 1 ≤ t.2 ∧ t.2 ≤ 30 ∧ f 47 i = nI t.2 ∧ f 239 i = nI t.2 ∧ f 240 i = ur_b (bt (f 45 2) i) := fun i => by
    by_cases hi : i < z
    · obtain ⟨p, k, c⟩ := h4 i hi
      rw [show 8 * 0 + i = i by omega] at c
      exact ⟨(p, k), fun _ => c⟩
    · exact ⟨(0, 0), fun q => absurd q hi⟩
  obtain ⟨t, ht⟩ := Classical.axiomOfChoice this
  exact ⟨z, fun i => (t i).1, fun i => (t i).2, h1, h2, h3, fun i hi => ht i hi⟩
theorem x_keeping (hX : oX s R L L' K K') (hc : cX s R f 33 L l V N P) (hE : lwX l E) (hp : p < P) (hk : k < 2 ^ 31) : ∃ f', ur_call ur_G (d + 6) 122 [.ref 0, .int (nI p), .int (nI k)] (s, f, g, R) = some (sB (fun r => bt (l 0 9) r && decide (syN E l V p r = k)) N, (s, f', g, R)) ∧ cX s R f' 33 L l V N P ∧ eqT SX f f' := by
  have hL := hX.eL
  have h8 := hc.r8
  have main := lp (n := N) (Fn := fun j (f' : Nat → Nat → Int32) => ur_at ur_G (d + 5) 122 (5, [some (.ref 0), some (.int (nI p)), some (.int (nI k)), some (.int (sB (fun r => bt (l 0 9) r && decide (syN E l V p r = k)) j)), some (.int (nI j))], [], (s, f', g, R)))
    (I := fun j f' => cX s R f' 33 L l V N P ∧ eqT SX f f')
    (Q := fun r => r.1 = sB (fun r => bt (l 0 9) r && decide (syN E l V p r = k)) N ∧ ∃ f', r.2 = (s, f', g, R) ∧ cX s R f' 33 L l V N P ∧ eqT SX f f') ?_ ?_ f ⟨hc, eqT.refl⟩
  · obtain ⟨⟨v', q⟩, e1, e2, f', e3, e4, e5⟩ := main
    dsimp only at e2 e3
    subst e2 e3
    exact ⟨f', ur_cl hX.rcv rfl (e_X9_roomsKeeping_0 _ _ _ _ e1), e4, e5⟩
  · intro j f1 hj ⟨i1, i3⟩
    have es : sB (fun r => bt (l 0 9) r && decide (syN E l V p r = k)) (j + 1) = sB (fun r => bt (l 0 9) r && decide (syN E l V p r = k)) j ||| (bif bt (l 0 9) j && decide (syN E l V p j = k) then (1 : Int32) <<< (nI j &&& 31) else 0) := rfl
    cases hb : bt (l 0 9) j with
    | false =>
      refine ⟨f1, ⟨i1, i3⟩, fun r hr => e_X9_roomsKeeping_5 _ _ _ _ _ _ ?_⟩
      rw [es, hb, Bool.false_and, cond_false, i_or0] at hr
      simp only [hX.r1, Option.bind_some, i1.oL.I, i1.er, i1.l0, d_le (show N < 2 ^ 31 by omega) (show j < 2 ^ 31 by omega), decide_eq_false (show ¬ N ≤ j by omega), cond_false, s_bit (l 0 9) (show j < 32 by omega), hb, ub_n1, Bool.not_false, cond_true, nI_1]
      exact hr
    | true =>
      obtain ⟨f2, c1, c2⟩ := c_stayOf (d := d + 1) (g := g) (r := V 0 7) i1 hE hp hj
      obtain ⟨e1, e2, e3⟩ := sy_is (E := E) (l := l) (V := V) (p := p) (j := j)
      rw [e1] at c1
      refine ⟨f2, ⟨i1.fr c2 (i1.bn.fr c2 (fun i k hi z => by unfold TL at z; omega)) (fun a k h1 h2 z => z), i3.trans (c2.mono (TL_SX hL))⟩, fun r hr => e_X9_roomsKeeping_5 _ _ _ _ _ _ ?_⟩
      simp only [hX.r1, Option.bind_some, i1.oL.I, i1.er, i1.l0, d_le (show N < 2 ^ 31 by omega) (show j < 2 ^ 31 by omega), decide_eq_false (show ¬ N ≤ j by omega), cond_false, s_bit (l 0 9) (show j < 32 by omega), hb, ub_n1, Bool.not_true, hX.r5, hX.now.I, i1.f0, c1, nI_1]
      rw [es, hb, Bool.true_and] at hr
      by_cases q : syN E l V p j = k
      · rw [decide_eq_true q, cond_true] at hr
        rw [decide_eq_false (fun z => z (by rw [q])), cond_false]
        exact hr
      · rw [decide_eq_false q, cond_false, i_or0] at hr
        rw [decide_eq_true (show nI (syN E l V p j) ≠ nI k from fun z => q ((nI_eq (by omega) hk).mp z)), cond_true]
        exact hr
  · intro f1 ⟨i1, i3⟩
    refine ⟨(sB (fun r => bt (l 0 9) r && decide (syN E l V p r = k)) N, (s, f1, g, R)), e_X9_roomsKeeping_5 _ _ _ _ _ _ ?_, rfl, f1, rfl, i1, i3⟩
    simp only [hX.r1, Option.bind_some, i1.oL.I, i1.er, d_le (show N < 2 ^ 31 by omega) (show N < 2 ^ 31 by omega), Nat.le_refl, decide_true, cond_true]
theorem U_sB {U : Int32} (hN : N ≤ 8) (hU : ∀ i, N ≤ i → i < 32 → bt U i = false) : U = sB (fun r => bt U r && true) N := by
  apply b_ext
  intro i hi
  rw [sB_bt _ N (by omega) i hi]
  by_cases h : i < N
  · rw [decide_eq_true h, Bool.and_true]; rfl
  · rw [hU i (by omega) hi, Bool.false_and, Bool.and_false]
theorem x_which (hX : oX s R L L' K K') (hc : cX s R f 33 L l V N P) (hE : lwX l E) (hU : ∀ i, N ≤ i → i < 32 → bt (l 0 9) i = false) (hz : z ≤ 8) (h3 : f 45 3 = nI z) (hs : snJ f z P sp sm) : ∃ f', ur_call ur_G (d + 8) 125 [.ref 0] (s, f, g, R) = some (wcV (l 0 9) N (syN E l V) sp sm (fun i => bt (f 45 2) i) z, (s, f', g, R)) ∧ cX s R f' 33 L l V N P ∧ eqT SX f f' := by
  have hL := hX.eL
  have h8 := hc.r8
  have main := lp (n := z) (Fn := fun j (f' : Nat → Nat → Int32) => ur_at ur_G (d + 7) 125 (10, [some (.ref 0), some (.int (wcV (l 0 9) N (syN E l V) sp sm (fun i => bt (f 45 2) i) j)), some (.int (nI j)), none], [], (s, f', g, R)))
    (I := fun j f' => cX s R f' 33 L l V N P ∧ eqT SX f f')
    (Q := fun r => r.1 = wcV (l 0 9) N (syN E l V) sp sm (fun i => bt (f 45 2) i) z ∧ ∃ f', r.2 = (s, f', g, R) ∧ cX s R f' 33 L l V N P ∧ eqT SX f f') ?_ ?_ f ⟨hc, eqT.refl⟩
  · obtain ⟨⟨v', q⟩, e1, e2, f', e3, e4, e5⟩ := main
    dsimp only at e2 e3
    subst e2 e3
    refine ⟨f', ur_cl hX.rcv rfl (e_X9_which_0 _ _ ?_), e4, e5⟩
    simp only [hX.r1, Option.bind_some, hc.oL.I, hc.l0]
    rw [show wcV (l 0 9) N (syN E l V) sp sm (fun i => bt (f 45 2) i) 0 = l 0 9 from (U_sB h8 hU).symm] at e1
    exact e1
  · intro j f1 hj ⟨i1, i3⟩
    have r45 : ∀ a k, 45 ≤ a → a < 48 → f1 a k = f a k := fun a k q1 q2 => i3 a k (fun q => by unfold SX TL at q; omega)
    obtain ⟨s1, s2, s3, s4, s5, s6, s7, s8⟩ := hs j hj
    obtain ⟨f2, c1, c2, c3⟩ := x_keeping (d := d + 1) (g := g) hX i1 hE s1 (show sm j < 2 ^ 31 by omega)
    have e3 : f1 45 3 = nI z := by rw [r45 45 3 (by decide) (by decide), h3]
    have e46 : f1 (45 + 1) j = nI (sp j) := by rw [r45 _ _ (by decide) (by decide), s2]
    have e47 : f1 (45 + 2) j = nI (sm j) := by rw [r45 _ _ (by decide) (by decide), s6]
    have e2 : f2 45 2 = f 45 2 := by rw [c3 45 2 (fun q => by unfold SX TL at q; omega), r45 45 2 (by decide) (by decide)]
    refine ⟨f2, ⟨c2, i3.trans c3⟩, fun r hr => e_X9_which_10 _ _ _ _ ?_⟩
    have es : wcV (l 0 9) N (syN E l V) sp sm (fun i => bt (f 45 2) i) (j + 1) = (bif bt (f 45 2) j then wcV (l 0 9) N (syN E l V) sp sm (fun i => bt (f 45 2) i) j &&& sB (fun r => bt (l 0 9) r && decide (syN E l V (sp j) r = sm j)) N else wcV (l 0 9) N (syN E l V) sp sm (fun i => bt (f 45 2) i) j &&& (sB (fun r => bt (l 0 9) r && decide (syN E l V (sp j) r = sm j)) N ^^^ (-1))) := (wc_step h8 (fun r => asW (syN E l V) sp sm (fun i => bt (f 45 2) i) r j) (fun r => decide (syN E l V (sp j) r = sm j)) (bt (f 45 2) j)).symm
    rw [es] at hr
    simp only [hX.r7, Option.bind_some, hX.seen.I, e3, d_le (show z < 2 ^ 31 by omega) (show j < 2 ^ 31 by omega), decide_eq_false (show ¬ z ≤ j by omega), cond_false, hX.seen.r0, hX.seen.r1, hX.seen.a1 (show j < 8 by omega), hX.seen.a2 (show j < 8 by omega), e46, e47, c1, e2, s_bit (f 45 2) (show j < 32 by omega), ub_n1, nI_1]
    revert hr
    cases bt (f 45 2) j with
    | true => exact fun hr => hr
    | false => exact fun hr => hr
  · intro f1 ⟨i1, i3⟩
    have e3 : f1 45 3 = nI z := by rw [i3 45 3 (fun q => by unfold SX TL at q; omega), h3]
    refine ⟨(wcV (l 0 9) N (syN E l V) sp sm (fun i => bt (f 45 2) i) z, (s, f1, g, R)), e_X9_which_10 _ _ _ _ ?_, rfl, f1, rfl, i1, i3⟩
    simp only [hX.r7, Option.bind_some, hX.seen.I, e3, d_le (show z < 2 ^ 31 by omega) (show z < 2 ^ 31 by omega), Nat.le_refl, decide_true, cond_true]
-- the reference
def tbJ (f : Nat → Nat → Int32) (b : Nat) (U : Int32) (st : Nat → Nat → Nat) (N P : Nat) : Prop := ∀ p r, p < P → r < N → bt U r = true → f (b + 41) (8 * p + r) = nI (st p r)
def TVS (b : Nat) : Nat → Nat → Prop := fun a _ => (b + 15 ≤ a ∧ a < b + 25) ∨ a = b + 41
theorem TVS_SR : ∀ a k, TVS b a k → SR b a k := fun a k z => by unfold TVS at z; unfold SR; omega
theorem cM.tvs (h : cM s R f b l V N P E) (t : eqT (TVS b) f f') : cM s R f' b l V N P E := h.sr (t.mono TVS_SR)
theorem m_laysStays (h : cM s R f b l V N P E) : ∃ f', ur_call ur_G (d + 6) 238 [.ref b] (s, f, g, R) = some (0, (s, f', g, R)) ∧ tbJ f' b (l 0 9) (syN E l V) N P ∧ eqT (TVS b) f f' := by
  have hM := h.oM
  have h8 := h.r8
  have h5 := h.p5
  have a0 : ∀ f', ur_aI (s, f', g, R) (b + 2) 0 0 = some (f' (b + 2) 0) := fun f' => hM.a2 (show 0 < 6 by decide)
  have a2 : ∀ f', ur_aI (s, f', g, R) (b + 2) 0 2 = some (f' (b + 2) 2) := fun f' => hM.a2 (show 2 < 6 by decide)
  have a1 : ∀ f', ur_aI (s, f', g, R) (b + 33) 0 1 = some (f' (b + 33) 1) := fun f' => hM.a33 (show 1 < 29 by decide)
  have inn : ∀ k f1, k < P → eqT (TVS b) f f1 → (∀ p r, p < k → r < N → bt (l 0 9) r = true → f1 (b + 41) (8 * p + r) = nI (syN E l V p r)) → ∃ f2, eqT (TVS b) f f2 ∧ (∀ p r, p < k + 1 → r < N → bt (l 0 9) r = true → f2 (b + 41) (8 * p + r) = nI (syN E l V p r)) ∧ ∀ r0, ur_at ur_G (d + 5) 238 (2, [some (.ref b), some (.int (nI (k + 1))), none], [], (s, f2, g, R)) = some r0 → ur_at ur_G (d + 5) 238 (14, [some (.ref b), some (.int (nI k)), some (.int 0)], [], (s, f1, g, R)) = some r0 := by
    intro k f1 hk t1 tb
    have go : ∀ n j f1, n + j = N → eqT (TVS b) f f1 → (∀ p r, (p < k ∧ r < N ∨ p = k ∧ r < j) → bt (l 0 9) r = true → f1 (b + 41) (8 * p + r) = nI (syN E l V p r)) → ∃ f2, eqT (TVS b) f f2 ∧ (∀ p r, p < k + 1 → r < N → bt (l 0 9) r = true → f2 (b + 41) (8 * p + r) = nI (syN E l V p r)) ∧ ∀ r0, ur_at ur_G (d + 5) 238 (2, [some (.ref b), some (.int (nI (k + 1))), none], [], (s, f2, g, R)) = some r0 → ur_at ur_G (d + 5) 238 (14, [some (.ref b), some (.int (nI k)), some (.int (nI j))], [], (s, f1, g, R)) = some r0 := by
      intro n
      induction n with
      | zero =>
        intro j f1 hj t1 tb
        have : j = N := by omega
        subst this
        refine ⟨f1, t1, fun p r q1 q2 q3 => tb p r (by omega) q3, fun r0 hr => e_X10_laysStays_14 _ _ _ _ ?_⟩
        simp only [hM.r10, Option.bind_some, a0, (h.tvs t1).er, d_le (show j < 2 ^ 31 by omega) (show j < 2 ^ 31 by omega), Nat.le_refl, decide_true, cond_true, nI_1]
        exact hr
      | succ n ih =>
        intro j f1 hj t1 tb
        have j1 := h.tvs t1
        have hh := (j1.hl.2.2.1 j (by omega))
        have hdec : decide (f1 (b + 4) j ≤ 0) = !bt (l 0 9) j := by rw [hh.1, hh.2.2, Bool.not_not]
        have n8 : (8 : Int32) * nI k + nI j = nI (8 * k + j) := by rw [nI_8 k (by omega), nI_add]
        cases hb : bt (l 0 9) j with
        | false =>
          obtain ⟨f2, q1, q2, q3⟩ := ih (j + 1) (ur_u f1 (b + 41) (8 * k + j) 0) (by omega) (t1.u (by unfold TVS; omega)) (fun p r z1 z2 => by
            have : r ≠ j := fun e => by rw [e, hb] at z2; cases z2
            rw [ur_un (by omega)]
            exact tb p r (by omega) z2)
          refine ⟨f2, q1, q2, fun r0 hr => e_X10_laysStays_14 _ _ _ _ ?_⟩
          rw [hb] at hdec
          simp only [hM.r10, Option.bind_some, a0, j1.er, d_le (show N < 2 ^ 31 by omega) (show j < 2 ^ 31 by omega), decide_eq_false (show ¬ N ≤ j by omega), cond_false, hM.r54, hM.r12, hM.a4 (show j < 16 by omega), hdec, Bool.not_false, cond_true, n8, hM.w41 (show 8 * k + j < 40 by omega), nI_1]
          exact q3 r0 hr
        | true =>
          obtain ⟨f2, c1, c2, c3⟩ := m_stayOf (d := d + 1) (g := g) (r := V 0 7) j1 hk (show j < N by omega)
          obtain ⟨e1, -, -⟩ := sy_is (E := E) (l := l) (V := V) (p := k) (j := j)
          rw [e1] at c1
          have t2 : eqT (TVS b) f f2 := t1.trans (c3.mono (fun a k z => by unfold TV at z; unfold TVS; omega))
          obtain ⟨f3, q1, q2, q3⟩ := ih (j + 1) (ur_u f2 (b + 41) (8 * k + j) (nI (syN E l V k j))) (by omega) (t2.u (by unfold TVS; omega)) (fun p r z1 z2 => by
            by_cases e : p = k ∧ r = j
            · rw [e.1, e.2, ur_us]
            · rw [ur_un (by omega), c3 _ _ (fun z => by unfold TV at z; omega)]
              exact tb p r (by omega) z2)
          refine ⟨f3, q1, q2, fun r0 hr => e_X10_laysStays_14 _ _ _ _ ?_⟩
          rw [hb] at hdec
          simp only [hM.r10, Option.bind_some, a0, j1.er, d_le (show N < 2 ^ 31 by omega) (show j < 2 ^ 31 by omega), decide_eq_false (show ¬ N ≤ j by omega), cond_false, hM.r54, hM.r12, hM.a4 (show j < 16 by omega), hdec, Bool.not_true, n8, hM.r44, a1, j1.hn.1.2.1, c1, hM.w41 (show 8 * k + j < 40 by omega), nI_1]
          exact q3 r0 hr
    exact go N 0 f1 rfl t1 (fun p r z => tb p r (by omega) (by omega))
  have main := lp (n := P) (Fn := fun k (f' : Nat → Nat → Int32) => ur_at ur_G (d + 5) 238 (2, [some (.ref b), some (.int (nI k)), none], [], (s, f', g, R)))
    (I := fun k f' => eqT (TVS b) f f' ∧ ∀ p r, p < k → r < N → bt (l 0 9) r = true → f' (b + 41) (8 * p + r) = nI (syN E l V p r))
    (Q := fun r => r.1 = 0 ∧ ∃ f', r.2 = (s, f', g, R) ∧ tbJ f' b (l 0 9) (syN E l V) N P ∧ eqT (TVS b) f f') ?_ ?_ f ⟨eqT.refl, fun p r hp => absurd hp (by omega)⟩
  · obtain ⟨⟨v', q⟩, e1, e2, f', e3, e4, e5⟩ := main
    dsimp only at e2 e3
    subst e2 e3
    exact ⟨f', ur_cl hM.rcv rfl (e_X10_laysStays_0 _ _ e1), e4, e5⟩
  · intro k f1 hk ⟨t1, tb⟩
    obtain ⟨f2, q1, q2, q3⟩ := inn k f1 hk t1 tb
    refine ⟨f2, ⟨q1, q2⟩, fun r hr => e_X10_laysStays_2 _ _ _ ?_⟩
    simp only [hM.r10, Option.bind_some, a2, (h.tvs t1).ep, d_le (show P < 2 ^ 31 by omega) (show k < 2 ^ 31 by omega), decide_eq_false (show ¬ P ≤ k by omega), cond_false]
    exact q3 r hr
  · intro f1 ⟨t1, tb⟩
    refine ⟨(0, (s, f1, g, R)), e_X10_laysStays_2 _ _ _ ?_, rfl, f1, rfl, tb, t1⟩
    simp only [hM.r10, Option.bind_some, a2, (h.tvs t1).ep, d_le (show P < 2 ^ 31 by omega) (show P < 2 ^ 31 by omega), Nat.le_refl, decide_true, cond_true]
theorem m_aB32 (hM : oModel s R b) (hi : i < 40) : ur_aB (s, f, g, R) (b + 32) (nI i) = some (f (b + 32) i) := by
  have := hM.le
  unfold ur_aB
  rw [decide_eq_true (show b + 32 < ur_base by unfold ur_base; omega), cond_true, hM.a32 hi]
theorem m_isAsSeen {st : Nat → Nat → Nat} (hM : oModel s R b) (hP : P ≤ 5) (hz : z ≤ 8) (h3 : f (b + 29) 0 = nI z) (hs : ∀ i, i < z → sp i < P ∧ f (b + 30) i = nI (sp i) ∧ sm i < 2 ^ 31 ∧ f (b + 31) i = nI (sm i) ∧ f (b + 32) i = ur_b (so i)) (hj : j < 8) (ht : ∀ p, p < P → f (b + 41) (8 * p + j) = nI (st p j) ∧ st p j < 2 ^ 31) : ur_call ur_G (d + 1) 240 [.ref b, .int (nI j)] (s, f, g, R) = some (ur_b (asW st sp sm so j z), (s, f, g, R)) := by
  have a29 : ur_aI (s, f, g, R) (b + 29) 0 0 = some (f (b + 29) 0) := hM.a29 (show 0 < 5 by decide)
  have key : ∀ n i, n + i = z → asW st sp sm so j i = true → ur_at ur_G d 240 (2, [some (.ref b), some (.int (nI j)), some (.int (nI i))], [], (s, f, g, R)) = some (ur_b (asW st sp sm so j z), (s, f, g, R)) := by
    intro n
    induction n with
    | zero =>
      intro i hi ha
      have : i = z := by omega
      subst this
      refine e_X10_isAsSeen_2 _ _ _ _ ?_
      rw [ha]
      simp only [hM.r40, Option.bind_some, a29, h3, d_le (show i < 2 ^ 31 by omega) (show i < 2 ^ 31 by omega), Nat.le_refl, decide_true, cond_true]
      rfl
    | succ n ih =>
      intro i hi ha
      obtain ⟨s1, s2, s3, s4, s5⟩ := hs i (by omega)
      obtain ⟨t1, t2⟩ := ht (sp i) s1
      have n8 : (8 : Int32) * nI (sp i) + nI j = nI (8 * sp i + j) := by rw [nI_8 _ (by omega), nI_add]
      have es := asW_s (st := st) (sp := sp) (sm := sm) (so := so) (r := j) (z := i)
      rw [ha, Bool.true_and] at es
      refine e_X10_isAsSeen_2 _ _ _ _ ?_
      simp only [hM.r40, Option.bind_some, a29, h3, d_le (show z < 2 ^ 31 by omega) (show i < 2 ^ 31 by omega), decide_eq_false (show ¬ z ≤ i by omega), cond_false, hM.r54, hM.r41, hM.a30 (show i < 40 by omega), s2, n8, hM.a41 (show 8 * sp i + j < 40 by omega), t1, hM.r42, hM.a31 (show i < 40 by omega), s4, hM.r43, m_aB32 hM (show i < 40 by omega), s5, nI_1]
      have fin : asW st sp sm so j (i + 1) = false → some ((0 : Int32), (s, f, g, R)) = some (ur_b (asW st sp sm so j z), (s, f, g, R)) := fun q => by rw [asW_f q z (by omega)]; rfl
      by_cases q : st (sp i) j = sm i
      · rw [decide_eq_true q] at es
        rw [decide_eq_false (show ¬ nI (st (sp i) j) ≠ nI (sm i) from fun z => z (by rw [q])), cond_false]
        cases hso : so i with
        | true => rw [hso] at es; exact ih (i + 1) (by omega) es
        | false => rw [hso] at es; exact fin es
      · rw [decide_eq_false q] at es
        rw [decide_eq_true (show nI (st (sp i) j) ≠ nI (sm i) from fun z => q ((nI_eq t2 s3).mp z)), cond_true]
        cases hso : so i with
        | true => rw [hso] at es; exact fin es
        | false => rw [hso] at es; exact ih (i + 1) (by omega) es
  exact ur_cl hM.rcv rfl (e_X10_isAsSeen_0 _ _ _ (key z 0 rfl rfl))
theorem m_which (h : cM s R f b l V N P E) (hz : z ≤ 8) (h3 : f (b + 29) 0 = nI z) (hs : ∀ i, i < z → sp i < P ∧ f (b + 30) i = nI (sp i) ∧ sm i < 2 ^ 31 ∧ f (b + 31) i = nI (sm i) ∧ f (b + 32) i = ur_b (so i)) : ∃ f', ur_call ur_G (d + 7) 241 [.ref b] (s, f, g, R) = some (wcV (l 0 9) N (syN E l V) sp sm so z, (s, f', g, R)) ∧ cM s R f' b l V N P E ∧ tbJ f' b (l 0 9) (syN E l V) N P ∧ eqT (SR b) f f' := by
  have hM := h.oM
  have h8 := h.r8
  have h5 := h.p5
  have t0 := m_thr h
  have a0 : ∀ f', ur_aI (s, f', g, R) (b + 2) 0 0 = some (f' (b + 2) 0) := fun f' => hM.a2 (show 0 < 6 by decide)
  obtain ⟨f1, c1, c2, c3⟩ := m_laysStays (d := d) (g := g) t0
  have j1 := t0.tvs c3
  have t1 : eqT (SR b) f f1 := (eqT_u SR_0).trans (c3.mono TVS_SR)
  have rr : ∀ a k, b + 29 ≤ a → a ≤ b + 32 → f1 a k = f a k := fun a k q1 q2 => t1 a k (fun q => by unfold SR at q; omega)
  have main := lp (n := N) (Fn := fun j (_ : Unit) => ur_at ur_G (d + 6) 241 (13, [some (.ref b), some (.int (sB (fun r => bt (l 0 9) r && asW (syN E l V) sp sm so r z) j)), some (.int (nI j))], [], (s, f1, g, R))) (I := fun _ _ => True) (Q := fun r => r = (wcV (l 0 9) N (syN E l V) sp sm so z, (s, f1, g, R))) ?_ ?_ () trivial
  · obtain ⟨r, e1, e2⟩ := main
    subst e2
    refine ⟨f1, ur_cl hM.rcv rfl (e_X10_which_0 _ _ ?_), j1, c2, t1⟩
    simp only [hM.pI, Option.bind_some, c1]
    exact e1
  · intro j _ hj _
    refine ⟨(), trivial, fun r hr => e_X10_which_13 _ _ _ _ ?_⟩
    have hh := (j1.hl.2.2.1 j (by omega))
    have hdec : decide (f1 (b + 4) j ≤ 0) = !bt (l 0 9) j := by rw [hh.1, hh.2.2, Bool.not_not]
    have es : sB (fun r => bt (l 0 9) r && asW (syN E l V) sp sm so r z) (j + 1) = sB (fun r => bt (l 0 9) r && asW (syN E l V) sp sm so r z) j ||| (bif bt (l 0 9) j && asW (syN E l V) sp sm so j z then (1 : Int32) <<< (nI j &&& 31) else 0) := rfl
    rw [es] at hr
    simp only [hM.r10, Option.bind_some, a0, j1.er, d_le (show N < 2 ^ 31 by omega) (show j < 2 ^ 31 by omega), decide_eq_false (show ¬ N ≤ j by omega), cond_false, hM.r12, hM.a4 (show j < 16 by omega), hdec, nI_1]
    cases hb : bt (l 0 9) j with
    | false => rw [hb] at hr; exact hr
    | true =>
      have q := m_isAsSeen (d := d + 5) (f := f1) (g := g) (sp := sp) (sm := sm) (so := so) (z := z) (st := syN E l V) (j := j) (P := P) hM h5 hz (by rw [rr _ _ (by omega) (by omega), h3]) (fun i hi => by
        obtain ⟨s1, s2, s3, s4, s5⟩ := hs i hi
        exact ⟨s1, by rw [rr _ _ (by omega) (by omega), s2], s3, by rw [rr _ _ (by omega) (by omega), s4], by rw [rr _ _ (by omega) (by omega), s5]⟩) (by omega) (fun p hp => ⟨c2 p j hp hj hb, by have := (sy_is (E := E) (l := l) (V := V) (p := p) (j := j)).2.2; omega⟩)
      rw [hb, Bool.true_and] at hr
      simp only [Bool.not_true, cond_false, q, Option.bind_some, ub_0]
      revert hr
      cases asW (syN E l V) sp sm so j z with
      | false => exact fun hr => hr
      | true => exact fun hr => hr
  · intro _ _
    refine ⟨(wcV (l 0 9) N (syN E l V) sp sm so z, (s, f1, g, R)), e_X10_which_13 _ _ _ _ ?_, rfl⟩
    simp only [hM.r10, Option.bind_some, a0, j1.er, d_le (show N < 2 ^ 31 by omega) (show N < 2 ^ 31 by omega), Nat.le_refl, decide_true, cond_true]
    rfl
theorem j_which (h : JV s R f g L L' K K' l V N P E) : JQ s R f g (d + 60) 125 241 [] := by
  obtain ⟨z, sp, sm, hz, z1, z2, hs⟩ := seR.ln h.2.2.2.2.1
  obtain ⟨f1, c1, c2, c3⟩ := x_which (d := d + 52) (g := g) h.oX h.cX h.lw h.cM.hl.2.2.2.1 hz z1 hs
  have rr : ∀ a k, 208 < a → f1 a k = f a k := fun a k q1 => c3 a k (fun q => by unfold SX TL at q; omega)
  obtain ⟨f2, d1, d2, d3, d4⟩ := m_which (d := d + 53) (g := g) (sp := sp) (sm := sm) (so := fun i => bt (f 45 2) i) (z := z) (h.cM.sx c3) hz (by rw [rr _ _ (by decide)]; exact z2) (fun i hi => by
    obtain ⟨s1, s2, s3, s4, s5, s6, s7, s8⟩ := hs i hi
    exact ⟨s1, by rw [rr _ _ (by decide)]; exact s3, by omega, by rw [rr _ _ (by decide)]; exact s7, by rw [rr _ _ (by decide)]; exact s8⟩)
  exact ⟨_, f1, f2, c1, d1, QX_x c3 d4⟩
theorem x_ask (hX : oX s R L L' K K') (hc : cX s R f 33 L l V N P) (hE : lwX l E) (hU : ∀ i, N ≤ i → i < 32 → bt (l 0 9) i = false) (hz : z ≤ 8) (h3 : f 45 3 = nI z) (hs : snJ f z P sp sm) (hW : X = wcV (l 0 9) N (syN E l V) sp sm (fun i => bt (f 45 2) i) z) : ∃ f', ur_call ur_G (d + 9) 126 [.ref 0] (s, f, g, R) = some ((akV (fun p => (mkA (syN E l V p) X N).2) (cnB X) P).2, (s, f', g, R)) ∧ eqT SX f f' := by
  have h8 := hc.r8
  have h5 := hc.p5
  obtain ⟨f0, a1, a2, a3⟩ := x_which (d := d) (g := g) hX hc hE hU hz h3 hs
  rw [← hW] at a1
  have smX : sm8 X := by rw [hW]; exact sm8_sB h8
  have main := lp (n := P) (Fn := fun p (f' : Nat → Nat → Int32) => ur_at ur_G (d + 8) 126 (15, [some (.ref 0), some (.int X), some (.int (akV (fun p => (mkA (syN E l V p) X N).2) (cnB X) p).1), some (.int (akV (fun p => (mkA (syN E l V p) X N).2) (cnB X) p).2), some (.int (nI p)), none], [], (s, f', g, R)))
    (I := fun p f' => cX s R f' 33 L l V N P ∧ eqT SX f f')
    (Q := fun r => r.1 = (akV (fun p => (mkA (syN E l V p) X N).2) (cnB X) P).2 ∧ ∃ f', r.2 = (s, f', g, R) ∧ eqT SX f f') ?_ ?_ f0 ⟨a2, a3⟩
  · obtain ⟨⟨v', q⟩, e1, e2, f', e3, e4⟩ := main
    dsimp only at e2 e3
    subst e2 e3
    refine ⟨f', ur_cl hX.rcv rfl (e_X9_ask_0 _ _ ?_), e4⟩
    simp only [a1, Option.bind_some, u_bc, bc_sm smX]
    exact e1
  · intro p f1 hp ⟨i1, i3⟩
    obtain ⟨f2, c1, c2, c3⟩ := x_most (d := d + 2) (g := g) (X := X) hX i1 hE hp
    refine ⟨f2, ⟨c2, i3.trans c3⟩, fun r hr => e_X9_ask_15 _ _ _ _ _ _ ?_⟩
    have es : akV (fun p => (mkA (syN E l V p) X N).2) (cnB X) (p + 1) = bif decide ((akV (fun p => (mkA (syN E l V p) X N).2) (cnB X) p).1 ≤ nI (mkA (syN E l V p) X N).2) then akV (fun p => (mkA (syN E l V p) X N).2) (cnB X) p else (nI (mkA (syN E l V p) X N).2, nI p) := rfl
    rw [es] at hr
    simp only [hX.r1, Option.bind_some, i1.oL.I, i1.ep, d_le (show P < 2 ^ 31 by omega) (show p < 2 ^ 31 by omega), decide_eq_false (show ¬ P ≤ p by omega), cond_false, c1, nI_1]
    revert hr
    cases decide ((akV (fun p => (mkA (syN E l V p) X N).2) (cnB X) p).1 ≤ nI (mkA (syN E l V p) X N).2) with
    | true => exact fun hr => hr
    | false => exact fun hr => hr
  · intro f1 ⟨i1, i3⟩
    refine ⟨((akV (fun p => (mkA (syN E l V p) X N).2) (cnB X) P).2, (s, f1, g, R)), e_X9_ask_15 _ _ _ _ _ _ ?_, rfl, f1, rfl, i3⟩
    simp only [hX.r1, Option.bind_some, i1.oL.I, i1.ep, d_le (show P < 2 ^ 31 by omega) (show P < 2 ^ 31 by omega), Nat.le_refl, decide_true, cond_true]
theorem m_most {p2 p3 : Int32} (h : cM s R f b l V N P E) (tb : tbJ f b (l 0 9) (syN E l V) N P) (hp : p < P) (hX : ∀ r, r < N → bt X r = true → bt (l 0 9) r = true) : ∃ f', eqT (fun a _ => a = b + 42) f f' ∧ ∀ r, ur_at ur_G (d + 1) 242 (61, [some (.ref b), some (.int X), some (.int p2), some (.int p3), some (.int (nI p)), some (.int (nI (mkA (syN E l V p) X N).2)), some (.int (nI N))], [], (s, f', g, R)) = some r → ur_at ur_G (d + 1) 242 (37, [some (.ref b), some (.int X), some (.int p2), some (.int p3), some (.int (nI p)), some (.int 0), some (.int 0)], [], (s, f, g, R)) = some r := by
  have hM := h.oM
  have h8 := h.r8
  have h5 := h.p5
  have a0 : ∀ f', ur_aI (s, f', g, R) (b + 2) 0 0 = some (f' (b + 2) 0) := fun f' => hM.a2 (show 0 < 6 by decide)
  have two : ∀ n j f1, n + j = N → eqT (fun a _ => a = b + 42) f f1 → (∀ v, v < 31 → f1 (b + 42) v = nI ((mkA (syN E l V p) X j).1 v)) → ∃ f', eqT (fun a _ => a = b + 42) f f' ∧ ∀ r, ur_at ur_G (d + 1) 242 (61, [some (.ref b), some (.int X), some (.int p2), some (.int p3), some (.int (nI p)), some (.int (nI (mkA (syN E l V p) X N).2)), some (.int (nI N))], [], (s, f', g, R)) = some r → ur_at ur_G (d + 1) 242 (61, [some (.ref b), some (.int X), some (.int p2), some (.int p3), some (.int (nI p)), some (.int (nI (mkA (syN E l V p) X j).2)), some (.int (nI j))], [], (s, f1, g, R)) = some r := by
    intro n
    induction n with
    | zero =>
      intro j f1 hj t1 i2
      have : j = N := by omega
      subst this
      exact ⟨f1, t1, fun r hr => hr⟩
    | succ n ih =>
      intro j f1 hj t1 i2
      have e2 : f1 (b + 2) 0 = nI N := by rw [t1 _ _ (by omega), h.er]
      have hmle := mkA_le (st := syN E l V p) (X := X) j
      cases hb : bt X j with
      | false =>
        obtain ⟨f2, q1, q2⟩ := ih (j + 1) f1 (by omega) t1 (by rw [mkA_f hb]; exact i2)
        refine ⟨f2, q1, fun r hr => e_X10_ask_61 _ _ _ _ _ _ _ _ ?_⟩
        have := q2 r hr
        rw [mkA_f hb] at this
        simp only [hM.r10, Option.bind_some, a0, e2, d_le (show N < 2 ^ 31 by omega) (show j < 2 ^ 31 by omega), decide_eq_false (show ¬ N ≤ j by omega), cond_false, b_bit (show j < 32 by omega), hb, ub_n0, nI_1]
        exact this
      | true =>
        obtain ⟨e1, e4, e3⟩ := sy_is (E := E) (l := l) (V := V) (p := p) (j := j)
        have n8 : (8 : Int32) * nI p + nI j = nI (8 * p + j) := by rw [nI_8 _ (by omega), nI_add]
        have e41 : ∀ f', eqT (fun a _ => a = b + 42) f f' → f' (b + 41) (8 * p + j) = nI (syN E l V p j) := fun f' t => by rw [t _ _ (by omega), tb p j hp (by omega) (hX j (by omega) hb)]
        have hcle : (mkA (syN E l V p) X j).1 (syN E l V p j) ≤ 8 := by
          rw [mkA_ct]
          have h1 := ct_le (st := syN E l V p) (X := X) (v := syN E l V p j) j
          have h2 := cN_le X j
          omega
        obtain ⟨f3, hf3⟩ : ∃ f3, f3 = ur_u f1 (b + 42) (syN E l V p j) (nI ((mkA (syN E l V p) X j).1 (syN E l V p j) + 1)) := ⟨_, rfl⟩
        have t3 : eqT (fun a _ => a = b + 42) f f3 := by rw [hf3]; exact t1.u rfl
        have e42 : f3 (b + 42) (syN E l V p j) = nI ((mkA (syN E l V p) X j).1 (syN E l V p j) + 1) := by rw [hf3, ur_us]
        obtain ⟨f2, q1, q2⟩ := ih (j + 1) f3 (by omega) t3 (fun v hv => by
          rw [mkA_t hb, hf3]
          show _ = nI (if v = syN E l V p j then _ else _)
          by_cases q : v = syN E l V p j
          · rw [if_pos q, q, ur_us]
          · rw [if_neg q, ur_un q, i2 v hv])
        refine ⟨f2, q1, fun r hr => e_X10_ask_61 _ _ _ _ _ _ _ _ ?_⟩
        have := q2 r hr
        rw [mkA_t hb] at this
        simp only [hM.r10, Option.bind_some, a0, e2, d_le (show N < 2 ^ 31 by omega) (show j < 2 ^ 31 by omega), decide_eq_false (show ¬ N ≤ j by omega), cond_false, b_bit (show j < 32 by omega), hb, ub_n0, cond_true, hM.r55, hM.r54, n8, hM.a41 (show 8 * p + j < 40 by omega), e41 f1 t1, hM.a42 (show syN E l V p j < 31 by omega), i2 _ (show syN E l V p j < 31 by omega), nI_1, hM.w42 (show syN E l V p j < 31 by omega), ← hf3, e41 f3 t3, e42, mx_nI (show (mkA (syN E l V p) X j).2 < 2 ^ 31 by omega) (show (mkA (syN E l V p) X j).1 (syN E l V p j) + 1 < 2 ^ 31 by omega)]
        exact this
  have one : ∀ n k f1, n + k = 31 → eqT (fun a _ => a = b + 42) f f1 → (∀ v, v < k → f1 (b + 42) v = 0) → ∃ f', eqT (fun a _ => a = b + 42) f f' ∧ (∀ v, v < 31 → f' (b + 42) v = 0) ∧ ∀ r, ur_at ur_G (d + 1) 242 (61, [some (.ref b), some (.int X), some (.int p2), some (.int p3), some (.int (nI p)), some (.int 0), some (.int 0)], [], (s, f', g, R)) = some r → ur_at ur_G (d + 1) 242 (37, [some (.ref b), some (.int X), some (.int p2), some (.int p3), some (.int (nI p)), some (.int 0), some (.int (nI k))], [], (s, f1, g, R)) = some r := by
    intro n
    induction n with
    | zero =>
      intro k f1 hk t1 i2
      have : k = 31 := by omega
      subst this
      exact ⟨f1, t1, i2, fun r hr => e_X10_ask_37 _ _ _ _ _ _ _ _ hr⟩
    | succ n ih =>
      intro k f1 hk t1 i2
      obtain ⟨f2, q1, q2, q3⟩ := ih (k + 1) (ur_u f1 (b + 42) k 0) (by omega) (t1.u rfl) (fun v hv => by
        by_cases q : v = k
        · rw [q, ur_us]
        · rw [ur_un q, i2 v (by omega)])
      refine ⟨f2, q1, q2, fun r hr => e_X10_ask_37 _ _ _ _ _ _ _ _ ?_⟩
      rw [show (31 : Int32) = nI 31 from rfl, d_le (by decide) (by omega), decide_eq_false (show ¬ 31 ≤ k by omega), cond_false]
      simp only [hM.r55, Option.bind_some, hM.w42 (show k < 31 by omega), nI_1]
      exact q3 r hr
  obtain ⟨f1, q1, q2, q3⟩ := one 31 0 f rfl eqT.refl (fun v hv => absurd hv (by omega))
  obtain ⟨f2, r1, r2⟩ := two N 0 f1 rfl q1 (fun v hv => q2 v hv)
  exact ⟨f2, r1, fun r hr => q3 r (r2 r hr)⟩
theorem m_ask (h : cM s R f b l V N P E) (hz : z ≤ 8) (h3 : f (b + 29) 0 = nI z) (hs : ∀ i, i < z → sp i < P ∧ f (b + 30) i = nI (sp i) ∧ sm i < 2 ^ 31 ∧ f (b + 31) i = nI (sm i) ∧ f (b + 32) i = ur_b (so i)) (hW : X = wcV (l 0 9) N (syN E l V) sp sm so z) : ∃ f', ur_call ur_G (d + 9) 242 [.ref b] (s, f, g, R) = some ((akV (fun p => (mkA (syN E l V p) X N).2) (cnB X) P).2, (s, f', g, R)) ∧ eqT (SR b) f f' := by
  have hM := h.oM
  have h8 := h.r8
  have h5 := h.p5
  have t0 := m_thr h
  have a0 : ∀ f', ur_aI (s, f', g, R) (b + 2) 0 0 = some (f' (b + 2) 0) := fun f' => hM.a2 (show 0 < 6 by decide)
  have a2 : ∀ f', ur_aI (s, f', g, R) (b + 2) 0 2 = some (f' (b + 2) 2) := fun f' => hM.a2 (show 2 < 6 by decide)
  obtain ⟨f1, c1, c2, c3, c4⟩ := m_which (d := d + 1) (g := g) (sp := sp) (sm := sm) (so := so) (z := z) t0 hz (by rw [ur_ua (by omega), h3]) (fun i hi => by
    obtain ⟨s1, s2, s3, s4, s5⟩ := hs i hi
    exact ⟨s1, by rw [ur_ua (by omega), s2], s3, by rw [ur_ua (by omega), s4], by rw [ur_ua (by omega), s5]⟩)
  rw [← hW] at c1
  have hXU : ∀ r, r < N → bt X r = true → bt (l 0 9) r = true := fun r hr hb => by
    rw [hW] at hb
    unfold wcV at hb
    rw [sB_bt _ N (by omega) r (by omega), Bool.and_eq_true, Bool.and_eq_true] at hb
    exact hb.2.1
  have main := lp (n := P) (Fn := fun p (f' : Nat → Nat → Int32) => ur_at ur_G (d + 8) 242 (20, [some (.ref b), some (.int X), some (.int (akV (fun p => (mkA (syN E l V p) X N).2) (cnB X) p).1), some (.int (akV (fun p => (mkA (syN E l V p) X N).2) (cnB X) p).2), some (.int (nI p)), none, none], [], (s, f', g, R)))
    (I := fun p f' => eqT (fun a _ => a = b + 42) f1 f')
    (Q := fun r => r.1 = (akV (fun p => (mkA (syN E l V p) X N).2) (cnB X) P).2 ∧ ∃ f', r.2 = (s, f', g, R) ∧ eqT (fun a _ => a = b + 42) f1 f') ?_ ?_ f1 eqT.refl
  · obtain ⟨⟨v', q⟩, e1, e2, f', e3, e4⟩ := main
    dsimp only at e2 e3
    subst e2 e3
    refine ⟨f', ur_cl hM.rcv rfl (e_X10_ask_0 _ _ ?_), ((eqT_u SR_0).trans c4).trans (e4.mono (fun a k z => by unfold SR; omega))⟩
    simp only [hM.pI, c1, Option.bind_some, t_bits]
    exact e1
  · intro p f2 hp i3
    have tb2 : tbJ f2 b (l 0 9) (syN E l V) N P := fun p r q1 q2 q3 => by rw [i3 _ _ (by omega), c3 p r q1 q2 q3]
    have h2 : cM s R f2 b l V N P E := c2.sr (i3.mono (fun a k z => by unfold SR; omega))
    obtain ⟨f3, q1, q2⟩ := m_most (d := d + 7) (g := g) (X := X) (p2 := (akV (fun p => (mkA (syN E l V p) X N).2) (cnB X) p).1) (p3 := (akV (fun p => (mkA (syN E l V p) X N).2) (cnB X) p).2) h2 tb2 hp hXU
    refine ⟨f3, i3.trans q1, fun r hr => e_X10_ask_20 _ _ _ _ _ _ ?_⟩
    have es : akV (fun p => (mkA (syN E l V p) X N).2) (cnB X) (p + 1) = bif decide ((akV (fun p => (mkA (syN E l V p) X N).2) (cnB X) p).1 ≤ nI (mkA (syN E l V p) X N).2) then akV (fun p => (mkA (syN E l V p) X N).2) (cnB X) p else (nI (mkA (syN E l V p) X N).2, nI p) := rfl
    rw [es] at hr
    simp only [hM.r10, Option.bind_some, a2, h2.ep, d_le (show P < 2 ^ 31 by omega) (show p < 2 ^ 31 by omega), decide_eq_false (show ¬ P ≤ p by omega), cond_false]
    refine q2 r (e_X10_ask_61 _ _ _ _ _ _ _ _ ?_)
    have e2 : f3 (b + 2) 0 = nI N := by rw [q1 _ _ (by omega), h2.er]
    simp only [hM.r10, Option.bind_some, a0, e2, d_le (show N < 2 ^ 31 by omega) (show N < 2 ^ 31 by omega), Nat.le_refl, decide_true, cond_true, nI_1]
    rw [d_nl] at hr
    revert hr
    cases decide (nI (mkA (syN E l V p) X N).2 < (akV (fun p => (mkA (syN E l V p) X N).2) (cnB X) p).1) with
    | true => exact fun hr => hr
    | false => exact fun hr => hr
  · intro f2 i3
    have h2 : cM s R f2 b l V N P E := c2.sr (i3.mono (fun a k z => by unfold SR; omega))
    refine ⟨((akV (fun p => (mkA (syN E l V p) X N).2) (cnB X) P).2, (s, f2, g, R)), e_X10_ask_20 _ _ _ _ _ _ ?_, rfl, f2, rfl, i3⟩
    simp only [hM.r10, Option.bind_some, a2, h2.ep, d_le (show P < 2 ^ 31 by omega) (show P < 2 ^ 31 by omega), Nat.le_refl, decide_true, cond_true]
theorem j_ask (h : JV s R f g L L' K K' l V N P E) : JQ s R f g (d + 60) 126 242 [] := by
  obtain ⟨z, sp, sm, hz, z1, z2, hs⟩ := seR.ln h.2.2.2.2.1
  obtain ⟨X, hW⟩ : ∃ X, X = wcV (l 0 9) N (syN E l V) sp sm (fun i => bt (f 45 2) i) z := ⟨_, rfl⟩
  obtain ⟨f1, c1, c3⟩ := x_ask (d := d + 51) (g := g) h.oX h.cX h.lw h.cM.hl.2.2.2.1 hz z1 hs hW
  have rr : ∀ a k, 208 < a → f1 a k = f a k := fun a k q1 => c3 a k (fun q => by unfold SX TL at q; omega)
  obtain ⟨f2, d1, d4⟩ := m_ask (d := d + 51) (g := g) (sp := sp) (sm := sm) (so := fun i => bt (f 45 2) i) (z := z) (h.cM.sx c3) hz (by rw [rr _ _ (by decide)]; exact z2) (fun i hi => by
    obtain ⟨s1, s2, s3, s4, s5, s6, s7, s8⟩ := hs i hi
    exact ⟨s1, by rw [rr _ _ (by decide)]; exact s3, by omega, by rw [rr _ _ (by decide)]; exact s7, by rw [rr _ _ (by decide)]; exact s8⟩) hW
  exact ⟨_, f1, f2, c1, d1, QX_x c3 d4⟩
end URAS

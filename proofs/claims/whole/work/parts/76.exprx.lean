/-! THE E: the class follows the descent -/
def lawX (f : Nat → Nat → Int32) (a : Nat) (r : List Int32) : Prop := f a 2 = nI r.length ∧ ∀ k, k < r.length → f (a + 1) k = r.getD k 0
def TE (a : Nat) : Nat → Nat → Prop := fun x k => (x = 1 ∧ 2 ≤ k ∧ k ≤ 7) ∨ (x = a ∧ k = 2) ∨ x = a + 1
def cER (f : Nat → Nat → Int32) (g : Nat → Nat → Int64) (q : Nat × (Nat → Nat)) (a : Nat) (o : uPR) (v : Int32) : Prop := match o with
  | .inl F => v = 0 ∧ f 1 7 = nI F
  | .inr x => v = 1 ∧ cS f g q x.1 ∧ lawX f a x.2.1
def lvI (k : Nat) : Int32 := bif decide (lvO k = 9) then -1 else nI (lvO k)
theorem lvO_v (k : Nat) : lvO k ≤ 3 ∨ lvO k = 9 := by
  unfold lvO
  cases decide (k = 42) <;> cases decide (k = 43) || decide (k = 45) <;> cases decide (k = 60) || decide (k = 61) <;> cases decide (k = 118) || decide (k = 119) <;> decide
theorem lv_d {k m : Nat} (hm : m < 4) : decide (lvI k ≠ nI m) = !decide (lvO k = m) := by
  unfold lvI
  rcases lvO_v k with h | h
  · rw [decide_eq_false (show ¬ lvO k = 9 by omega), cond_false]
    by_cases e : lvO k = m
    · rw [decide_eq_true e, e, decide_eq_false (fun z => z rfl)]; rfl
    · rw [decide_eq_false e, decide_eq_true (show nI (lvO k) ≠ nI m from fun z => e ((nI_eq (by omega) (by omega)).mp z))]; rfl
  · rw [decide_eq_true h, cond_true, h, decide_eq_false (show ¬ 9 = m by omega), decide_eq_true (show (-1 : Int32) ≠ nI m from fun z => nI_ne_m1 (show m < 2 ^ 31 by omega) z.symm)]
    rfl
theorem li_app_lt (r : List Int32) (v : Int32) {k : Nat} (h : k < r.length) : (r ++ [v]).getD k 0 = r.getD k 0 := by
  rw [List.getD_eq_getElem?_getD, List.getD_eq_getElem?_getD, List.getElem?_append_left h]
theorem li_app_eq (r : List Int32) (v : Int32) : (r ++ [v]).getD r.length 0 = v := by
  rw [List.getD_eq_getElem?_getD, List.getElem?_append_right (Nat.le_refl _)]
  simp
section UREX
variable {s : List (Nat ⊕ (Nat × Nat))} {f f' f1 f2 : Nat → Nat → Int32} {g g' : Nat → Nat → Int64} {R : Nat → Nat → Option Nat} {d a i k : Nat} {q : Nat × (Nat → Nat)} {r : List Int32} {v : Int32}
theorem TF1_TE : ∀ x k, TF1 x k → TE a x k := fun x k z => Or.inl z
theorem lawX.fr {T : Nat → Nat → Prop} (h : lawX f a r) (t : eqT T f f') (h1 : ¬ T a 2) (h2 : ∀ k, ¬ T (a + 1) k) : lawX f' a r := ⟨by rw [t _ _ h1, h.1], fun k hk => by rw [t _ _ (h2 k), h.2 k hk]⟩
theorem x_putS (hA : oLaw s R a) (h : lawX f a r) (hr : r.length < 1000) : ∃ f', ur_call ur_G (d + 1) 26 [.ref a, .int v] (s, f, g, R) = some (0, (s, f', g, R)) ∧ lawX f' a (r ++ [v]) ∧ eqT (fun x k => (x = a ∧ k = 2) ∨ x = a + 1) f f' := by
  refine ⟨ur_u (ur_u f (a + 1) r.length v) a 2 (nI (r.length + 1)), ur_cl hA.rcv rfl (e_X2_put_0 _ _ _ ?_), ⟨?_, fun k hk => ?_⟩, (eqT_u (Or.inr rfl)).u (Or.inl ⟨rfl, rfl⟩)⟩
  · simp only [hA.I, hA.pI, Option.bind_some, h.1, show decide ((1000 : Int32) ≤ nI r.length) = false from decide_eq_false (nI_ge (b := 1000) hr (by decide)), cond_false, hA.r0, hA.w1 hr, ur_ua (show a ≠ a + 1 by omega), nI_1]
  · rw [ur_us]; simp
  · rw [ur_ua (by omega)]
    by_cases e : k = r.length
    · rw [e, ur_us, li_app_eq]
    · have hk' : k < r.length := by
        simp only [List.length_append, List.length_cons, List.length_nil] at hk
        omega
      rw [ur_un e, h.2 k hk', li_app_lt r v hk']
theorem x_levelOf {m : ur_M} (hk : k < 120) : ur_call ur_G (d + 1) 23 [.int (nI k)] m = some (lvI k, m) := by
  refine ur_cl rfl rfl (e_X2_levelOf_0 _ _ ?_)
  have e : ∀ c, c < 2 ^ 31 → decide (nI k = nI c) = decide (k = c) := fun c hc => d_eq (by omega) hc
  rw [show decide (nI k = (42 : Int32)) = decide (k = 42) from e 42 (by decide), show decide (nI k = (43 : Int32)) = decide (k = 43) from e 43 (by decide), show decide (nI k = (45 : Int32)) = decide (k = 45) from e 45 (by decide), show decide (nI k = (60 : Int32)) = decide (k = 60) from e 60 (by decide), show decide (nI k = (61 : Int32)) = decide (k = 61) from e 61 (by decide), show decide (nI k = (118 : Int32)) = decide (k = 118) from e 118 (by decide), show decide (nI k = (119 : Int32)) = decide (k = 119) from e 119 (by decide)]
  unfold lvI lvO
  cases decide (k = 42) with
  | true => rfl
  | false =>
    cases decide (k = 43) with
    | true => rfl
    | false =>
      cases decide (k = 45) with
      | true => rfl
      | false =>
        cases decide (k = 60) with
        | true => rfl
        | false =>
          cases decide (k = 61) with
          | true => rfl
          | false =>
            cases decide (k = 118) with
            | true => rfl
            | false => cases decide (k = 119) <;> rfl
def mostI (m : Nat) : Int32 := bif decide (m ≠ 1) then 1000 else 1
/-- a PART, a level, a level's loop, by fuel -/
def xPA (s : List (Nat ⊕ (Nat × Nat))) (R : Nat → Nat → Option Nat) (q : Nat × (Nat → Nat)) (a n : Nat) : Prop := ∀ (d w u i : Nat) (r c : List Int32) (b : Bool) (f : Nat → Nat → Int32) (g : Nat → Nat → Int64), w + u = 5 → 10 * (q.1 - i) < n → cS f g q i → lawX f a r → r.length ≤ i → ∃ v f' g', ur_call ur_G (d + 7 * u + 9) 24 [.ref a, .ref 1, .int (nI w)] (s, f, g, R) = some (v, (s, f', g', R)) ∧ cER f' g' q a (pE q n 4 w i r c b) v ∧ eqT (TE a) f f' ∧ eqL GF1 g g'
def xLA (s : List (Nat ⊕ (Nat × Nat))) (R : Nat → Nat → Option Nat) (q : Nat × (Nat → Nat)) (a n : Nat) : Prop := ∀ (d m w u i : Nat) (r c : List Int32) (b : Bool) (f : Nat → Nat → Int32) (g : Nat → Nat → Int64), m ≤ 4 → w + u = 5 → 10 * (q.1 - i) + (4 - m) < n → cS f g q i → lawX f a r → r.length ≤ i → ∃ v f' g', ur_call ur_G (d + 7 * u + 9 + (5 - m)) 22 [.ref a, .ref 1, .int (nI m), .int (nI w)] (s, f, g, R) = some (v, (s, f', g', R)) ∧ cER f' g' q a (pE q n m w i r c b) v ∧ eqT (TE a) f f' ∧ eqL GF1 g g'
def xLO (s : List (Nat ⊕ (Nat × Nat))) (R : Nat → Nat → Option Nat) (q : Nat × (Nat → Nat)) (a n : Nat) : Prop := ∀ (d m w u i k : Nat) (r c : List Int32) (b : Bool) (f : Nat → Nat → Int32) (g : Nat → Nat → Int64), m < 4 → w + u = 5 → 10 * (q.1 - i) < n → k ≤ i → (m = 1 → k = 0) → cS f g q i → lawX f a r → r.length ≤ i → ∃ v f' g', ur_at ur_G (d + 7 * u + 9 + (4 - m)) 22 (43, [some (.ref a), some (.ref 1), some (.int (nI m)), some (.int (nI w)), some (.int (mostI m)), some (.int (nI k)), none], [], (s, f, g, R)) = some (v, (s, f', g', R)) ∧ cER f' g' q a (pE q n (m + 5) w i r c b) v ∧ eqT (TE a) f f' ∧ eqL GF1 g g'
theorem cER_v {o : uPR} (h : cER f g q a o v) : v = 0 ∨ v = 1 := by
  cases o with
  | inl F => exact Or.inl h.1
  | inr x => exact Or.inr h.1
theorem ur_fit01 (h : v = 0 ∨ v = 1) : ur_fit 1 v = true := by
  rcases h with rfl | rfl <;> rfl
theorem x_PA (hO : oTape s R 1) (hA : oLaw s R a) (hS : s.length ≤ 1000) (ha : 3 ≤ a) {n : Nat} (hP : xPA s R q a n) (hL : xLA s R q a n) : xPA s R q a (n + 1) := by
  intro d w u i r c b f g hwu hfu hc hl hr
  have hkl := hc.kl
  have hle := hc.1.le
  have dk : ∀ k, k < 2 ^ 31 → decide (nI (kdT q i) = nI k) = decide (kdT q i = k) := fun k hk => d_eq (by omega) hk
  -- the fault that nothing can stand so
  have f1' := x_fl (d := d + 7 * u + 7) hO hc (k := 1) (v := 1) rfl
  have f5' := x_fl (d := d + 7 * u + 7) hO hc (k := 5) (v := 5) rfl
  have tfl : ∀ F, eqT (TE a) f (ur_u f 1 7 (nI F)) := fun F => eqT_u (Or.inl ⟨rfl, by decide, by decide⟩)
  obtain ⟨fa, ga, v1, v2, v3, v4⟩ := x_adv (d := d + 7 * u) hO hS hc
  have tfa : eqT (TE a) f fa := v3.mono TF1_TE
  have hla : lawX fa a r := hl.fr v3 (by unfold TF1; omega) (fun k z => by unfold TF1 at z; omega)
  have hn := tk_next hc.le
  -- the head
  obtain ⟨s0, hs0⟩ : ∃ s0 : Int32, s0 = bif decide (fcM q i = 0) then -1 else nI (fcM q i - 1) := ⟨_, rfl⟩
  have hd : ∀ rr, ur_at ur_G (d + 7 * u + 8) 24 (29, [some (.ref a), some (.ref 1), some (.int (nI w)), some (.int (nI (kdT q i))), some (.int (f 1 6)), none], [.int s0], (s, f, g, R)) = some rr → ur_call ur_G (d + 7 * u + 9) 24 [.ref a, .ref 1, .int (nI w)] (s, f, g, R) = some rr := fun rr hrr => by
    refine ur_cl hA.rcv rfl (e_X2_readPart_0 _ _ _ _ ?_)
    simp only [hO.I, Option.bind_some, hc.kd]
    by_cases k3 : kdT q i = 3
    · have hw : isW (kdT q i) := Or.inl k3
      obtain ⟨w1, w2, -⟩ := tk_w hc.le hw
      have hnum := u_num2 (d := d + 7 * u + 2) (f := f) (g := g) (R := R) (u := g 1 5) hS
      rw [hc.w hw, fiI_w fcl 0 _ fcl_ok w1, show fcl.length = 4 from rfl, Nat.zero_add] at hnum
      have es : (bif decide (ixW fcl (wlT q i) < 4) then nI (ixW fcl (wlT q i)) else -1) = s0 := by
        rw [hs0]
        unfold fcM fcK
        rw [decide_eq_true k3, Bool.true_and]
        by_cases h4 : ixW fcl (wlT q i) < 4
        · rw [decide_eq_true h4, cond_true, cond_true, decide_eq_false (by omega), cond_false]; rfl
        · rw [decide_eq_false h4, cond_false, cond_false, decide_eq_true rfl, cond_true]
      rw [es] at hnum
      rw [decide_eq_false (show ¬ nI (kdT q i) ≠ (3 : Int32) from fun z => z (by rw [k3]; rfl)), cond_false, hO.L, Option.bind_some, hc.w hw, hnum, Option.bind_some]
      exact hrr
    · have es : s0 = -1 := by
        rw [hs0]
        unfold fcM
        rw [decide_eq_false k3]
        rfl
      rw [decide_eq_true (show nI (kdT q i) ≠ (3 : Int32) from fun z => k3 ((nI_eq (b := 3) (by omega) (by decide)).mp z)), cond_true, ← es]
      exact hrr
  have d2 := dk 2 (by decide)
  have d117 := dk 117 (by decide)
  have d40 := dk 40 (by decide)
  have dw : decide (nI w < (5 : Int32)) = decide (w < 5) := d_lt (b := 5) (by omega) (by decide)
  -- too deep
  have deep : 5 ≤ w → ur_at ur_G (d + 7 * u + 8) 24 (60, [some (.ref a), some (.ref 1), some (.int (nI w)), some (.int (nI (kdT q i))), some (.int (f 1 6)), some (.int s0)], [], (s, f, g, R)) = some (0, (s, ur_u f 1 7 (nI (5 + 16 * bgT q i)), g, R)) := fun hw => by
    refine e_X2_readPart_60 _ _ _ _ _ _ _ ?_
    rw [dw, decide_eq_false (by omega), cond_false, f5', Option.bind_some]
    rfl
  have ne40 : decide (nI (kdT q i) ≠ (40 : Int32)) = !decide (kdT q i = 40) := by
    by_cases e : kdT q i = 40
    · rw [decide_eq_true e, e]; rfl
    · rw [decide_eq_false e, decide_eq_true (show nI (kdT q i) ≠ (40 : Int32) from fun z => e ((nI_eq (b := 40) (by omega) (by decide)).mp z))]; rfl
  have ne117 : decide (nI (kdT q i) ≠ (117 : Int32)) = !decide (kdT q i = 117) := by
    by_cases e : kdT q i = 117
    · rw [decide_eq_true e, e]; rfl
    · rw [decide_eq_false e, decide_eq_true (show nI (kdT q i) ≠ (117 : Int32) from fun z => e ((nI_eq (b := 117) (by omega) (by decide)).mp z))]; rfl
  have ne2 : decide (nI (kdT q i) ≠ (2 : Int32)) = !decide (kdT q i = 2) := by
    by_cases e : kdT q i = 2
    · rw [decide_eq_true e, e]; rfl
    · rw [decide_eq_false e, decide_eq_true (show nI (kdT q i) ≠ (2 : Int32) from fun z => e ((nI_eq (b := 2) (by omega) (by decide)).mp z))]; rfl
  rw [pE_pt]
  by_cases k2 : kdT q i = 2
  · -- a number
    have h29 : ∀ rr, ur_at ur_G (d + 7 * u + 8) 24 (60, [some (.ref a), some (.ref 1), some (.int (nI w)), some (.int (nI (kdT q i))), some (.int (f 1 6)), some (.int s0)], [], (s, f, g, R)) = some rr → ur_call ur_G (d + 7 * u + 9) 24 [.ref a, .ref 1, .int (nI w)] (s, f, g, R) = some rr := fun rr hrr => by
      refine hd rr (e_X2_readPart_29 _ _ _ _ _ _ _ ?_)
      rw [show decide (nI (kdT q i) = (2 : Int32)) = true from by rw [k2]; rfl, cond_true]
      exact hrr
    rw [if_pos k2]
    by_cases hw : 5 ≤ w
    · rw [if_pos hw]
      exact ⟨0, _, g, h29 _ (deep hw), ⟨rfl, ur_us⟩, tfl _, eqL.refl⟩
    · rw [if_neg hw]
      obtain ⟨f3, p1, p2, p3⟩ := x_putS (d := d + 7 * u + 7) (g := ga) (v := nI (nmT q i)) hA hla (show r.length < 1000 by have := hn.2.1 (by omega); have := hn.1; omega)
      refine ⟨1, f3, ga, h29 _ (e_X2_readPart_60 _ _ _ _ _ _ _ ?_), ⟨rfl, v2.fr p3 (eqL.refl (T := fun _ _ => False)) (fun k h1 h2 z => by omega) (fun k z => by omega) (fun z => z), p2⟩, tfa.trans (p3.mono (fun x k z => by unfold TE; omega)), v4⟩
      rw [dw, decide_eq_true (by omega), cond_true, v1, Option.bind_some, ne40, decide_eq_false (by omega), Bool.not_false, cond_true, ne117, decide_eq_false (by omega), Bool.not_false, cond_true]
      refine e_X2_readPart_109 _ _ _ _ _ ?_
      rw [ne2, decide_eq_true k2, Bool.not_true, cond_false, hc.nu k2, p1, Option.bind_some]
  · rw [if_neg k2]
    by_cases k117 : kdT q i = 117
    · have h29 : ∀ rr, ur_at ur_G (d + 7 * u + 8) 24 (60, [some (.ref a), some (.ref 1), some (.int (nI w)), some (.int (nI (kdT q i))), some (.int (f 1 6)), some (.int s0)], [], (s, f, g, R)) = some rr → ur_call ur_G (d + 7 * u + 9) 24 [.ref a, .ref 1, .int (nI w)] (s, f, g, R) = some rr := fun rr hrr => by
        refine hd rr (e_X2_readPart_29 _ _ _ _ _ _ _ ?_)
        rw [show decide (nI (kdT q i) = (2 : Int32)) = false from by rw [k117]; rfl, cond_false, show decide (nI (kdT q i) = (117 : Int32)) = true from by rw [k117]; rfl, cond_true]
        exact hrr
      rw [if_pos k117]
      by_cases hw : 5 ≤ w
      · rw [if_pos hw]
        exact ⟨0, _, g, h29 _ (deep hw), ⟨rfl, ur_us⟩, tfl _, eqL.refl⟩
      · rw [if_neg hw]
        obtain ⟨u', rfl⟩ : ∃ u', u = u' + 1 := ⟨u - 1, by omega⟩
        have hlt := hn.2.1 (show kdT q i ≠ 1 by omega)
        obtain ⟨vb, fb, gb, b1, b2, b3, b4⟩ := hP (d + 6) (w + 1) u' (enT q i) r (c ++ [30]) b fa ga (by omega) (by omega) v2 hla (by omega)
        rw [show d + 6 + 7 * u' + 9 = d + 7 * (u' + 1) + 8 by omega] at b1
        have h60 : ∀ rr, (bif decide (vb ≠ 0) then ur_at ur_G (d + 7 * (u' + 1) + 8) 24 (109, [some (.ref a), none, none, some (.int (nI (kdT q i))), some (.int (f 1 6)), some (.int s0)], [], (s, fb, gb, R)) else some (0, (s, fb, gb, R))) = some rr → ur_call ur_G (d + 7 * (u' + 1) + 9) 24 [.ref a, .ref 1, .int (nI w)] (s, f, g, R) = some rr := fun rr hrr => by
          refine h29 _ (e_X2_readPart_60 _ _ _ _ _ _ _ ?_)
          rw [dw, decide_eq_true (by omega), cond_true, v1, Option.bind_some, ne40, decide_eq_false (by omega), Bool.not_false, cond_true, ne117, decide_eq_true k117, Bool.not_true, cond_false]
          simp only [show nI w + 1 = nI (w + 1) from nI_1 w, b1, Option.bind_some]
          exact hrr
        cases hp : pE q n 4 (w + 1) (enT q i) r (c ++ [30]) b with
        | inl F =>
          rw [hp] at b2
          obtain ⟨z1, z2⟩ := b2
          subst z1
          exact ⟨0, fb, gb, h60 _ rfl, ⟨rfl, z2⟩, tfa.trans b3, v4.trans b4⟩
        | inr x =>
          rw [hp] at b2
          obtain ⟨z1, z2, z3⟩ := b2
          subst z1
          have pr := pE_pr n 4 (w + 1) (enT q i) r (c ++ [30]) b x hn.1 (by omega) hp
          obtain ⟨f3, p1, p2, p3⟩ := x_putS (d := d + 7 * (u' + 1) + 7) (g := gb) (v := -117) hA z3 (by omega)
          refine ⟨1, f3, gb, h60 _ ?_, ⟨rfl, z2.fr p3 (eqL.refl (T := fun _ _ => False)) (fun k h1 h2 z => by omega) (fun k z => by omega) (fun z => z), p2⟩, (tfa.trans b3).trans (p3.mono (fun x k z => by unfold TE; omega)), v4.trans b4⟩
          rw [show decide ((1 : Int32) ≠ 0) = true from by decide, cond_true]
          refine e_X2_readPart_109 _ _ _ _ _ ?_
          rw [ne2, decide_eq_false k2, Bool.not_false, cond_true, ne117, decide_eq_true k117, Bool.not_true, cond_false, p1, Option.bind_some]
    · rw [if_neg k117]
      by_cases k40 : kdT q i = 40
      · have h29 : ∀ rr, ur_at ur_G (d + 7 * u + 8) 24 (60, [some (.ref a), some (.ref 1), some (.int (nI w)), some (.int (nI (kdT q i))), some (.int (f 1 6)), some (.int s0)], [], (s, f, g, R)) = some rr → ur_call ur_G (d + 7 * u + 9) 24 [.ref a, .ref 1, .int (nI w)] (s, f, g, R) = some rr := fun rr hrr => by
          refine hd rr (e_X2_readPart_29 _ _ _ _ _ _ _ ?_)
          rw [show decide (nI (kdT q i) = (2 : Int32)) = false from by rw [k40]; rfl, cond_false, show decide (nI (kdT q i) = (117 : Int32)) = false from by rw [k40]; rfl, cond_false, show decide (nI (kdT q i) = (40 : Int32)) = true from by rw [k40]; rfl, cond_true]
          exact hrr
        rw [if_pos k40]
        by_cases hw : 5 ≤ w
        · rw [if_pos hw]
          exact ⟨0, _, g, h29 _ (deep hw), ⟨rfl, ur_us⟩, tfl _, eqL.refl⟩
        · rw [if_neg hw]
          obtain ⟨u', rfl⟩ : ∃ u', u = u' + 1 := ⟨u - 1, by omega⟩
          have hlt := hn.2.1 (show kdT q i ≠ 1 by omega)
          obtain ⟨vb, fb, gb, b1, b2, b3, b4⟩ := hL d 0 (w + 1) u' (enT q i) r (c ++ [28]) false fa ga (by omega) (by omega) (by omega) v2 hla (by omega)
          rw [show d + 7 * u' + 9 + (5 - 0) = d + 7 * (u' + 1) + 7 by omega] at b1
          have b1' : ur_call ur_G (d + 7 * (u' + 1) + 7) 22 [.ref a, .ref 1, .int (0 : Int32), .int (nI (w + 1))] (s, fa, ga, R) = some (vb, (s, fb, gb, R)) := b1
          have h60 : ∀ vv fv gv, (vv = 0 ∨ vv = 1) → ur_at ur_G (d + 7 * (u' + 1) + 7) 25 (0, [some (.ref a), some (.ref 1), some (.int (nI (w + 1)))], [], (s, fa, ga, R)) = some (vv, (s, fv, gv, R)) → ur_call ur_G (d + 7 * (u' + 1) + 9) 24 [.ref a, .ref 1, .int (nI w)] (s, f, g, R) = some (vv, (s, fv, gv, R)) := fun vv fv gv h01 hrr => by
            refine h29 _ (e_X2_readPart_60 _ _ _ _ _ _ _ ?_)
            have c25 : ur_call ur_G (d + 7 * (u' + 1) + 8) 25 [.ref a, .ref 1, .int (nI (w + 1))] (s, fa, ga, R) = some (vv, (s, fv, gv, R)) := ur_cl hA.rcv rfl hrr
            rw [dw, decide_eq_true (by omega), cond_true, v1, Option.bind_some, ne40, decide_eq_true k40, Bool.not_true, cond_false]
            simp only [show nI w + 1 = nI (w + 1) from nI_1 w, c25, Option.bind_some, ur_fit01 h01, cond_true]
          cases hp : pE q n 0 (w + 1) (enT q i) r (c ++ [28]) false with
          | inl F =>
            rw [hp] at b2
            obtain ⟨z1, z2⟩ := b2
            subst z1
            refine ⟨0, fb, gb, h60 _ _ _ (Or.inl rfl) (e_X2_readInner_0 _ _ _ _ ?_), ⟨rfl, z2⟩, tfa.trans b3, v4.trans b4⟩
            rw [b1', Option.bind_some]
            rfl
          | inr x =>
            rw [hp] at b2
            obtain ⟨z1, z2, z3⟩ := b2
            subst z1
            have hxl := z2.kl
            have hxd : decide (nI (kdT q x.1) = (41 : Int32)) = decide (kdT q x.1 = 41) := d_eq (b := 41) (by omega) (by decide)
            show ∃ v f' g', _ ∧ cER f' g' q a (if kdT q x.1 = 41 then .inr (enT q x.1, x.2.1, x.2.2.1 ++ [29], b) else .inl (1 + 16 * bgT q x.1)) v ∧ _
            by_cases k41 : kdT q x.1 = 41
            · rw [if_pos k41]
              obtain ⟨fc, gc, w1, w2, w3, w4⟩ := x_adv (d := d + 7 * u' + 6) hO hS z2
              rw [show d + 7 * u' + 6 + 8 = d + 7 * (u' + 1) + 7 by omega] at w1
              refine ⟨1, fc, gc, h60 _ _ _ (Or.inr rfl) (e_X2_readInner_0 _ _ _ _ ?_), ⟨rfl, w2, z3.fr w3 (by unfold TF1; omega) (fun k z => by unfold TF1 at z; omega)⟩, (tfa.trans b3).trans (w3.mono TF1_TE), (v4.trans b4).trans w4⟩
              rw [b1', Option.bind_some]
              simp only [show decide ((1 : Int32) ≠ 0) = true from by decide, cond_true, hO.I, Option.bind_some, z2.kd, hxd, decide_eq_true k41, w1]
            · rw [if_neg k41]
              have fx := x_fl (d := d + 7 * (u' + 1) + 6) hO z2 (k := 1) (v := 1) rfl
              refine ⟨0, ur_u fb 1 7 (nI (1 + 16 * bgT q x.1)), gb, h60 _ _ _ (Or.inl rfl) (e_X2_readInner_0 _ _ _ _ ?_), ⟨rfl, ur_us⟩, (tfa.trans b3).u (Or.inl ⟨rfl, by decide, by decide⟩), v4.trans b4⟩
              rw [b1', Option.bind_some]
              simp only [show decide ((1 : Int32) ≠ 0) = true from by decide, cond_true, hO.I, Option.bind_some, z2.kd, hxd, decide_eq_false k41, cond_false, fx]
              rfl
      · rw [if_neg k40]
        have e2 : decide (nI (kdT q i) = (2 : Int32)) = false := (dk 2 (by decide)).trans (decide_eq_false k2)
        have e117 : decide (nI (kdT q i) = (117 : Int32)) = false := (dk 117 (by decide)).trans (decide_eq_false k117)
        have e40 : decide (nI (kdT q i) = (40 : Int32)) = false := (dk 40 (by decide)).trans (decide_eq_false k40)
        by_cases hf : fcM q i = 0
        · rw [if_pos hf]
          refine ⟨0, ur_u f 1 7 (nI (1 + 16 * bgT q i)), g, hd _ (e_X2_readPart_29 _ _ _ _ _ _ _ ?_), ⟨rfl, ur_us⟩, tfl _, eqL.refl⟩
          rw [e2, cond_false, e117, cond_false, e40, cond_false, hs0, hf, decide_eq_true rfl, cond_true, show decide ((-1 : Int32) ≠ (-1)) = false from by decide, cond_false, f1', Option.bind_some]
          rfl
        · rw [if_neg hf]
          obtain ⟨z3, z4, z5⟩ := fcM_3 hf
          have es0 : s0 = nI (fcM q i - 1) := by rw [hs0, decide_eq_false hf]; rfl
          have h29 : ∀ rr, ur_at ur_G (d + 7 * u + 8) 24 (60, [some (.ref a), some (.ref 1), some (.int (nI w)), some (.int (nI (kdT q i))), some (.int (f 1 6)), some (.int s0)], [], (s, f, g, R)) = some rr → ur_call ur_G (d + 7 * u + 9) 24 [.ref a, .ref 1, .int (nI w)] (s, f, g, R) = some rr := fun rr hrr => by
            refine hd rr (e_X2_readPart_29 _ _ _ _ _ _ _ ?_)
            rw [e2, cond_false, e117, cond_false, e40, cond_false, decide_eq_true (show s0 ≠ (-1 : Int32) from by rw [es0]; exact nI_ne_m1 (by omega)), cond_true]
            exact hrr
          by_cases hw : 5 ≤ w
          · rw [if_pos hw]
            exact ⟨0, _, g, h29 _ (deep hw), ⟨rfl, ur_us⟩, tfl _, eqL.refl⟩
          · rw [if_neg hw]
            obtain ⟨f3, p1, p2, p3⟩ := x_putS (d := d + 7 * u + 7) (g := ga) (v := -1 - nI (fcM q i - 1)) hA hla (show r.length < 1000 by have := hn.2.1 (by omega); have := hn.1; omega)
            refine ⟨1, f3, ga, h29 _ (e_X2_readPart_60 _ _ _ _ _ _ _ ?_), ⟨rfl, v2.fr p3 (eqL.refl (T := fun _ _ => False)) (fun k h1 h2 z => by omega) (fun k z => by omega) (fun z => z), p2⟩, tfa.trans (p3.mono (fun x k z => by unfold TE; omega)), v4⟩
            rw [dw, decide_eq_true (by omega), cond_true, v1, Option.bind_some, ne40, decide_eq_false k40, Bool.not_false, cond_true, ne117, decide_eq_false k117, Bool.not_false, cond_true]
            refine e_X2_readPart_109 _ _ _ _ _ ?_
            rw [ne2, decide_eq_false k2, Bool.not_false, cond_true, ne117, decide_eq_false k117, Bool.not_false, cond_true, es0, p1, Option.bind_some]
theorem x_LA4 (hA : oLaw s R a) {n : Nat} (hP : xPA s R q a n) (d w u i : Nat) (r c : List Int32) (b : Bool) (f : Nat → Nat → Int32) (g : Nat → Nat → Int64) (h1 : w + u = 5) (h2 : 10 * (q.1 - i) < n) (h3 : cS f g q i) (h4 : lawX f a r) (h5 : r.length ≤ i) : ∃ v f' g', ur_call ur_G (d + 7 * u + 9 + 1) 22 [.ref a, .ref 1, .int (nI 4), .int (nI w)] (s, f, g, R) = some (v, (s, f', g', R)) ∧ cER f' g' q a (pE q n 4 w i r c b) v ∧ eqT (TE a) f f' ∧ eqL GF1 g g' := by
  obtain ⟨v, f', g', e1, e2, e3⟩ := hP d w u i r c b f g h1 h2 h3 h4 h5
  refine ⟨v, f', g', ur_cl hA.rcv rfl (e_X2_readLevel_0 _ _ _ _ _ ?_), e2, e3⟩
  rw [show decide (nI 4 < (4 : Int32)) = false from by decide, cond_false, e1, Option.bind_some]
  simp only [ur_fit01 (cER_v e2), cond_true]
theorem x_LA (hA : oLaw s R a) {n : Nat} (hP : xPA s R q a (n + 1)) (hL : xLA s R q a n) (hl : xLO s R q a n) : xLA s R q a (n + 1) := by
  intro d m w u i r c b f g hm hwu hfu hc hla hr
  by_cases h4 : m = 4
  · subst h4
    exact x_LA4 hA hP d w u i r c b f g hwu (by omega) hc hla hr
  · rw [pE_lv (by omega)]
    obtain ⟨v, f1, g1, e1, e2, e3, e4⟩ := hL d (m + 1) w u i r c b f g (by omega) hwu (by omega) hc hla hr
    rw [show d + 7 * u + 9 + (5 - (m + 1)) = d + 7 * u + 9 + (4 - m) by omega] at e1
    have head : ∀ rr, (bif decide (v ≠ 0) then ur_at ur_G (d + 7 * u + 9 + (4 - m)) 22 (43, [some (.ref a), some (.ref 1), some (.int (nI m)), some (.int (nI w)), some (.int (mostI m)), some (.int 0), none], [], (s, f1, g1, R)) else some (0, (s, f1, g1, R))) = some rr → ur_call ur_G (d + 7 * u + 9 + (5 - m)) 22 [.ref a, .ref 1, .int (nI m), .int (nI w)] (s, f, g, R) = some rr := fun rr hrr => by
      rw [show d + 7 * u + 9 + (5 - m) = d + 7 * u + 9 + (4 - m) + 1 by omega]
      refine ur_cl hA.rcv rfl (e_X2_readLevel_0 _ _ _ _ _ ?_)
      rw [show decide (nI m < (4 : Int32)) = true from decide_eq_true (nI_lt (b := 4) (by omega) (by decide)), cond_true]
      simp only [show nI m + 1 = nI (m + 1) from nI_1 m, e1, Option.bind_some]
      unfold mostI at hrr
      have em : decide (nI m ≠ (1 : Int32)) = decide (m ≠ 1) := by
        by_cases e : m = 1
        · subst e; rfl
        · rw [decide_eq_true e, decide_eq_true (show nI m ≠ (1 : Int32) from fun z => e ((nI_eq (b := 1) (by omega) (by decide)).mp z))]
      rw [em]
      revert hrr
      cases decide (v ≠ 0) with
      | false => simp only [cond_false]; exact fun h => h
      | true => cases decide (m ≠ 1) <;> (simp only [cond_true, cond_false]; exact fun h => h)
    cases hp : pE q n (m + 1) w i r c b with
    | inl F =>
      rw [hp] at e2
      obtain ⟨z1, z2⟩ := e2
      subst z1
      exact ⟨0, f1, g1, head _ rfl, ⟨rfl, z2⟩, e3, e4⟩
    | inr x =>
      rw [hp] at e2
      obtain ⟨z1, z2, z3⟩ := e2
      subst z1
      have pr := pE_pr n (m + 1) w i r c b x hc.le (by omega) hp
      have hlt := pr.2.2.1 (by omega)
      obtain ⟨v', f2, g2, k1, k2, k3, k4⟩ := hl d m w u x.1 0 x.2.1 x.2.2.1 x.2.2.2 f1 g1 (by omega) hwu (by omega) (by omega) (fun _ => rfl) z2 z3 (by omega)
      refine ⟨v', f2, g2, head _ ?_, k2, e3.trans k3, e4.trans k4⟩
      rw [show decide ((1 : Int32) ≠ 0) = true from by decide, cond_true]
      exact k1
theorem x_LO (hO : oTape s R 1) (hA : oLaw s R a) (hS : s.length ≤ 1000) (ha : 3 ≤ a) {n : Nat} (hL : xLA s R q a n) (hl : xLO s R q a n) : xLO s R q a (n + 1) := by
  intro d m w u i k r c b f g hm hwu hfu hki hk1 hc hla hr
  have hkl := hc.kl
  have hle := hc.1.le
  have hn := tk_next hc.le
  rw [pE_lp hm]
  by_cases hlv : lvO (kdT q i) = m
  · rw [if_pos hlv]
    have hlt := hn.2.1 (lvO_1 hlv hm).1
    have hmk : decide (mostI m ≤ nI k) = false := by
      unfold mostI
      by_cases e : m = 1
      · rw [hk1 e, show decide (m ≠ 1) = false from decide_eq_false (fun z => z e), cond_false]; decide
      · rw [show decide (m ≠ 1) = true from decide_eq_true e, cond_true]
        exact decide_eq_false (nI_ge (b := 1000) (by omega) (by decide))
    obtain ⟨fa, ga, v1, v2, v3, v4⟩ := x_adv (d := d + 7 * u + 1 + (4 - m)) hO hS hc
    rw [show d + 7 * u + 1 + (4 - m) + 8 = d + 7 * u + 9 + (4 - m) by omega] at v1
    have hlaa : lawX fa a r := hla.fr v3 (by unfold TF1; omega) (fun k z => by unfold TF1 at z; omega)
    obtain ⟨v, f1, g1, e1, e2, e3, e4⟩ := hL d (m + 1) w u (enT q i) r (c ++ [nI (opC (kdT q i))]) (flC m b) fa ga (by omega) hwu (by omega) v2 hlaa (by omega)
    rw [show d + 7 * u + 9 + (5 - (m + 1)) = d + 7 * u + 9 + (4 - m) by omega] at e1
    have lo := x_levelOf (d := d + 7 * u + 8 + (4 - m)) (m := (s, f, g, R)) hkl
    rw [show d + 7 * u + 8 + (4 - m) + 1 = d + 7 * u + 9 + (4 - m) by omega] at lo
    have head : ∀ rr, (bif decide (v ≠ 0) then ((ur_call ur_G (d + 7 * u + 9 + (4 - m)) 26 [.ref a, .int (-nI (kdT q i))] (s, f1, g1, R)).bind fun q6 => ur_at ur_G (d + 7 * u + 9 + (4 - m)) 22 (43, [some (.ref a), some (.ref 1), some (.int (nI m)), some (.int (nI w)), some (.int (mostI m)), some (.int (nI (k + 1))), none], [], q6.2)) else some (0, (s, f1, g1, R))) = some rr → ur_at ur_G (d + 7 * u + 9 + (4 - m)) 22 (43, [some (.ref a), some (.ref 1), some (.int (nI m)), some (.int (nI w)), some (.int (mostI m)), some (.int (nI k)), none], [], (s, f, g, R)) = some rr := fun rr hrr => by
      refine e_X2_readLevel_43 _ _ _ _ _ _ _ ?_
      rw [hmk, cond_false]
      simp only [hO.I, Option.bind_some, hc.kd, lo, lv_d hm, hlv, decide_true, Bool.not_true, cond_false, v1, show nI m + 1 = nI (m + 1) from nI_1 m, e1, nI_1]
      exact hrr
    cases hp : pE q n (m + 1) w (enT q i) r (c ++ [nI (opC (kdT q i))]) (flC m b) with
    | inl F =>
      rw [hp] at e2
      obtain ⟨z1, z2⟩ := e2
      subst z1
      exact ⟨0, f1, g1, head _ rfl, ⟨rfl, z2⟩, (v3.mono TF1_TE).trans e3, v4.trans e4⟩
    | inr x =>
      rw [hp] at e2
      obtain ⟨z1, z2, z3⟩ := e2
      subst z1
      have pr := pE_pr n (m + 1) w (enT q i) r (c ++ [nI (opC (kdT q i))]) (flC m b) x hn.1 (by omega) hp
      have hlt2 := pr.2.2.1 (by omega)
      obtain ⟨f3, p1, p2, p3⟩ := x_putS (d := d + 7 * u + 8 + (4 - m)) (g := g1) (v := -nI (kdT q i)) hA z3 (by omega)
      rw [show d + 7 * u + 8 + (4 - m) + 1 = d + 7 * u + 9 + (4 - m) by omega] at p1
      have c3 : cS f3 g1 q x.1 := z2.fr p3 (eqL.refl (T := fun _ _ => False)) (fun k h1 h2 z => by omega) (fun k z => by omega) (fun z => z)
      have t3 : eqT (TE a) f f3 := ((v3.mono TF1_TE).trans e3).trans (p3.mono (fun x k z => by unfold TE; omega))
      show ∃ v f' g', _ ∧ cER f' g' q a (if m = 1 then .inr (x.1, x.2.1 ++ [-nI (kdT q i)], x.2.2.1, x.2.2.2) else pE q n (m + 5) w x.1 (x.2.1 ++ [-nI (kdT q i)]) x.2.2.1 x.2.2.2) v ∧ _
      by_cases em : m = 1
      · rw [if_pos em]
        refine ⟨1, f3, g1, head _ ?_, ⟨rfl, c3, p2⟩, t3, v4.trans e4⟩
        rw [show decide ((1 : Int32) ≠ 0) = true from by decide, cond_true, p1, Option.bind_some]
        refine e_X2_readLevel_43 _ _ _ _ _ _ _ ?_
        have : decide (mostI m ≤ nI (k + 1)) = true := by
          unfold mostI
          rw [hk1 em, show decide (m ≠ 1) = false from decide_eq_false (fun z => z em), cond_false]
          decide
        rw [this, cond_true]
      · rw [if_neg em]
        obtain ⟨v', f4, g4, k1, k2, k3, k4⟩ := hl d m w u x.1 (k + 1) (x.2.1 ++ [-nI (kdT q i)]) x.2.2.1 x.2.2.2 f3 g1 hm hwu (by omega) (by omega) (fun z => absurd z em) c3 p2 (by simp only [List.length_append, List.length_cons, List.length_nil]; omega)
        refine ⟨v', f4, g4, head _ ?_, k2, t3.trans k3, (v4.trans e4).trans k4⟩
        rw [show decide ((1 : Int32) ≠ 0) = true from by decide, cond_true, p1, Option.bind_some]
        exact k1
  · rw [if_neg hlv]
    have lo := x_levelOf (d := d + 7 * u + 8 + (4 - m)) (m := (s, f, g, R)) hkl
    rw [show d + 7 * u + 8 + (4 - m) + 1 = d + 7 * u + 9 + (4 - m) by omega] at lo
    refine ⟨1, f, g, e_X2_readLevel_43 _ _ _ _ _ _ _ ?_, ⟨rfl, hc, hla⟩, eqT.refl, eqL.refl⟩
    cases decide (mostI m ≤ nI k) with
    | true => rfl
    | false =>
      simp only [cond_false, hO.I, Option.bind_some, hc.kd, lo, lv_d hm, decide_eq_false hlv, Bool.not_false, cond_true]
theorem x_E (hO : oTape s R 1) (hA : oLaw s R a) (hS : s.length ≤ 1000) (ha : 3 ≤ a) : ∀ n, xPA s R q a n ∧ xLA s R q a n ∧ xLO s R q a n := by
  intro n
  induction n with
  | zero => exact ⟨fun _ _ _ _ _ _ _ _ _ _ h => absurd h (by omega), fun _ _ _ _ _ _ _ _ _ _ _ _ h => absurd h (by omega), fun _ _ _ _ _ _ _ _ _ _ _ _ _ h => absurd h (by omega)⟩
  | succ n ih =>
    obtain ⟨h1, h2, h3⟩ := ih
    have p := x_PA hO hA hS ha h1 h2
    exact ⟨p, x_LA hA p h2 h3, x_LO hO hA hS ha h2 h3⟩
end UREX

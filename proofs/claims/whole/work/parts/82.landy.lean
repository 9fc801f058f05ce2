/-! THE CLASS READS STATEMENTS: doors, persons -/
section URLY
variable {s : List (Nat ⊕ (Nat × Nat))} {f f' f1 f2 : Nat → Nat → Int32} {g g' : Nat → Nat → Int64} {R : Nat → Nat → Option Nat} {d i k L a b : Nat} {q : Nat × (Nat → Nat)} {z : uPL} {told : Bool} {ws : List Nat}
theorem zUn_bt (hN : zN z ≤ 8) (ha : a < zN z) : bt (zUn z) a = decide (0 < zHo z a) := by
  unfold zUn
  rw [sB_bt _ _ (by omega) a (by omega), decide_eq_true ha, Bool.true_and]
theorem x_unsL (hL : oLand s R L) (h : xLn f g L z told) (hz : zW z) (ha : a < zN z) : ur_call ur_G (d + 2) 5 [.ref L, .int (nI a)] (s, f, g, R) = some (ur_b (decide (0 < zHo z a)), (s, f, g, R)) := by
  rw [s_isUnsaid_in hL h.1.2.2.1 hz.1.1 ha, h.1.2.1, zUn_bt hz.1.1 ha]
theorem x_join (hL : oLand s R L) (h : xLn f g L z told) (hz : zW z) (ha : a < zN z) (hb : b < zN z) : ur_call ur_G (d + 4) 17 [.ref L, .int (nI a), .int (nI b)] (s, f, g, R) = some (ur_b (pJoin z a b), (s, f, g, R)) := by
  have h8 := hz.1.1
  have last : ∀ c : Bool, ur_at ur_G (d + 3) 17 (21, [some (.ref L), some (.int (nI a)), some (.int (nI b)), none], [.int (ur_b c)], (s, f, g, R)) = some (ur_b (!decide (a = b) && (!c && !bt (zDr z a) b)), (s, f, g, R)) := fun c => by
    refine e_X1_canJoin_21 _ _ _ _ _ ?_
    simp only [d_eq (show a < 2 ^ 31 by omega) (show b < 2 ^ 31 by omega), ub_n0, hL.r2, Option.bind_some, hL.a3 (show a < 8 by omega), h.2.2.1 a (by omega), s_bit (zDr z a) (show b < 32 by omega)]
    cases decide (a = b) <;> cases c <;> cases bt (zDr z a) b <;> rfl
  refine ur_cl hL.rcv rfl (e_X1_canJoin_0 _ _ _ _ ?_)
  simp only [x_unsL hL h hz ha, x_unsL hL h hz hb, Option.bind_some, ub_0]
  unfold pJoin
  have l0 := last false
  have l1 := last true
  cases decide (0 < zHo z a) with
  | false => simp only [Bool.not_false, cond_true, Bool.false_and]; exact l0
  | true =>
    cases decide (0 < zHo z b) with
    | false => simp only [Bool.not_true, Bool.not_false, cond_true, cond_false, Bool.and_false]; exact l0
    | true => simp only [Bool.not_true, cond_false, Bool.and_self]; exact l1
theorem x_door (hO : oTape s R 1) (hS : s.length ≤ 1000) (hL : oLand s R L) (hL3 : 3 ≤ L) (hc : cS f g q i) (h : xLn f g L z told) (hz : zW z) : ∃ v f' g', ur_call ur_G (d + 9) 16 [.ref L, .ref 1] (s, f, g, R) = some (v, (s, f', g', R)) ∧ cSR f' g' q L told (pDoor q z i) v ∧ eqT (TLa L) f f' ∧ eqL (GLa L) g g' := by
  have h8 := hz.1.1
  have hD10 := hz.1.2.2
  have d10' : decide (nI (zD z) < (10 : Int32)) = decide (zD z < 10) := d_lt (b := 10) (by omega) (by decide)
  unfold pDoor
  by_cases hD : 10 ≤ zD z
  · rw [if_pos hD]
    have fl := x_fl (d := d + 7) hO hc (k := 5) (v := 5) rfl
    refine ⟨0, _, g, ur_cl hL.rcv rfl (e_X1_readDoor_0 _ _ _ ?_), ⟨rfl, ur_us⟩, eqT_u (Or.inl ⟨rfl, by decide, by decide⟩), eqL.refl⟩
    simp only [hL.I, Option.bind_some, h.1.2.2.2.1, d10', decide_eq_false (show ¬ zD z < 10 by omega), cond_false, fl]
    rfl
  · rw [if_neg hD]
    obtain ⟨f1, g1, a1, a2, a3, a4⟩ := x_adv (d := d) hO hS hc
    have x1 := h.tp hL3 a3 a4
    obtain ⟨b1, b2⟩ := x_rnm (d := d + 5) hO hL a2 x1 hz
    by_cases e0 : pRnm q z (enT q i) = 0
    · rw [if_neg (fun z => z e0)]
      obtain ⟨c1, k3, ka, ka1, ka2, ka3, ka4⟩ := b2 e0
      have gw := a2.w (Or.inl k3)
      obtain ⟨f2, g2, v1, v2, v3, v4⟩ := x_adv (d := d) hO hS a2
      have x2 := x1.tp hL3 v3 v4
      have t2 : eqT (TLa L) f f2 := (a3.mono TF1_La).trans (v3.mono TF1_La)
      have u2 : eqL (GLa L) g g2 := (a4.mono GF1_La).trans (v4.mono GF1_La)
      obtain ⟨b3, b4⟩ := x_rnm (d := d + 5) hO hL v2 x2 hz
      by_cases e1 : pRnm q z (enT q (enT q i)) = 0
      · rw [if_neg (fun z => z e1)]
        obtain ⟨c2, k3', kb, kb1, kb2, kb3, kb4⟩ := b4 e1
        have gw2 := v2.w (Or.inl k3')
        rw [ka3, kb3]
        have cj := x_join (d := d + 4) hL x2 hz ka1 kb1
        have ka9 := ka4 (d + 7)
        have kb9 := kb4 (d + 7)
        have na : decide (nI ka < (0 : Int32)) = false := decide_eq_false (nI_pos (by omega))
        have nb : decide (nI kb < (0 : Int32)) = false := decide_eq_false (nI_pos (by omega))
        by_cases hj : pJoin z ka kb = true
        · rw [if_pos hj]
          rw [hj] at cj
          have hne : ka ≠ kb := by
            intro e
            subst e
            unfold pJoin at hj
            rw [decide_eq_true rfl] at hj
            cases hj
          obtain ⟨f3, hf3⟩ : ∃ f3, f3 = ur_u (ur_u f2 (L + 3) ka (zDr z ka ||| bit1 kb)) (L + 3) kb (zDr z kb ||| bit1 ka) := ⟨_, rfl⟩
          obtain ⟨f4, hf4⟩ : ∃ f4, f4 = ur_u f3 L 11 (nI (zD z + 1)) := ⟨_, rfl⟩
          have t4 : eqT (fun x k => (x = L ∧ k = 11) ∨ x = L + 3) f2 f4 := by rw [hf4, hf3]; exact ((eqT_u (Or.inr rfl)).u (Or.inr rfl)).u (Or.inl ⟨rfl, rfl⟩)
          have c4 : cS f4 g2 q (enT q (enT q i)) := v2.fr t4 (eqL.refl (T := fun _ _ => False)) (fun k h1 h2 z => by omega) (fun k z => by omega) (fun z => z)
          have e3 : ∀ r, f4 (L + 3) r = upA (upA (zDr z) ka (zDr z ka ||| bit1 kb)) kb (zDr z kb ||| bit1 ka) r ∨ 8 ≤ r := fun r => by
            by_cases hr : r < 8
            · refine Or.inl ?_
              rw [hf4, ur_ua (by omega), hf3]
              by_cases e : r = kb
              · rw [e, ur_us, upA_s]
              · rw [ur_un e, upA_n e]
                by_cases e2 : r = ka
                · rw [e2, ur_us, upA_s]
                · rw [ur_un e2, upA_n e2, x2.2.2.1 r hr]
            · exact Or.inr (by omega)
          have x4 : xLn f4 g2 L (addD z ka kb) told := by
            obtain ⟨⟨y1, y2, y3, y4, y5⟩, w1, w2, w3⟩ := x2
            refine ⟨⟨by rw [t4 _ _ (by omega), y1], by rw [t4 _ _ (by omega), y2]; rfl, by rw [t4 _ _ (by omega), y3]; rfl, by rw [hf4, ur_us]; rfl, by rw [t4 _ _ (by omega), y5]; rfl⟩, fun r hr => by rw [t4 _ _ (by omega)]; exact w1 r hr, fun r hr => ?_, fun p hp => by rw [t4 _ _ (by omega), t4 _ _ (by omega), t4 _ _ (by omega)]; exact w3 p hp⟩
            rcases e3 r with e | e
            · exact e
            · omega
          obtain ⟨f5, g5, w1, w2, w3, w4⟩ := x_adv (d := d) hO hS c4
          refine ⟨1, f5, g5, ur_cl hL.rcv rfl (e_X1_readDoor_0 _ _ _ ?_), ⟨rfl, w2, x4.tp hL3 w3 w4⟩, (t2.trans (t4.mono (fun x k z => by unfold TLa; omega))).trans (w3.mono TF1_La), u2.trans (w4.mono GF1_La)⟩
          have r3a : f2 (L + 3) ka = zDr z ka := x2.2.2.1 ka (by omega)
          have r3b : ur_u f2 (L + 3) ka (zDr z ka ||| bit1 kb) (L + 3) kb = zDr z kb := by rw [ur_un (fun z => hne z.symm)]; exact x2.2.2.1 kb (by omega)
          have r11 : f3 L 11 = nI (zD z) := by rw [hf3, ur_ua (by omega), ur_ua (by omega), x2.1.2.2.2.1]
          simp only [hL.I, Option.bind_some, h.1.2.2.2.1, d10', decide_eq_true (show zD z < 10 by omega), cond_true, a1, c1, d10, hO.L, gw, ka9, v1, c2, gw2, kb9, na, nb, cond_false, cj, show ur_b true = (1 : Int32) from rfl, hL.r2, hL.a3 (show ka < 8 by omega), r3a, show (1 : Int32) <<< (nI kb &&& 31) = bit1 kb from rfl, show (1 : Int32) <<< (nI ka &&& 31) = bit1 ka from rfl, hL.w3 (show ka < 8 by omega), hL.a3 (show kb < 8 by omega), r3b, hL.w3 (show kb < 8 by omega), ← hf3, r11, hL.pI, nI_1, ← hf4, w1]
        · rw [if_neg hj]
          have hj' : pJoin z ka kb = false := by
            cases e : pJoin z ka kb with
            | true => exact absurd e hj
            | false => rfl
          rw [hj'] at cj
          have fl := x_fl (d := d + 7) hO v2 (k := 3) (v := 3) rfl
          refine ⟨0, _, g2, ur_cl hL.rcv rfl (e_X1_readDoor_0 _ _ _ ?_), ⟨rfl, ur_us⟩, t2.u (Or.inl ⟨rfl, by decide, by decide⟩), u2⟩
          simp only [hL.I, Option.bind_some, h.1.2.2.2.1, d10', decide_eq_true (show zD z < 10 by omega), cond_true, a1, c1, d10, hO.L, gw, ka9, v1, c2, gw2, kb9, na, nb, cond_false, cj, show ur_b false = (0 : Int32) from rfl, d00, fl]
          rfl
      · rw [if_pos e1]
        have ka9 := ka4 (d + 7)
        refine ⟨0, _, g2, ur_cl hL.rcv rfl (e_X1_readDoor_0 _ _ _ ?_), ⟨rfl, ur_us⟩, t2.u (Or.inl ⟨rfl, by decide, by decide⟩), u2⟩
        simp only [hL.I, Option.bind_some, h.1.2.2.2.1, d10', decide_eq_true (show zD z < 10 by omega), cond_true, a1, c1, d10, hO.L, gw, ka9, v1, b3 e1, d00, cond_false]
    · rw [if_pos e0]
      refine ⟨0, _, g1, ur_cl hL.rcv rfl (e_X1_readDoor_0 _ _ _ ?_), ⟨rfl, ur_us⟩, (a3.mono TF1_La).u (Or.inl ⟨rfl, by decide, by decide⟩), a4.mono GF1_La⟩
      simp only [hL.I, Option.bind_some, h.1.2.2.2.1, d10', decide_eq_true (show zD z < 10 by omega), cond_true, a1, b1 e0, d00, cond_false]
theorem x_addP {kk ag hm : Nat} (hL : oLand s R L) (hL3 : 3 ≤ L) (hc : cS f g q i) (hx : xLn f g L z told) (hz : zW z) (hP : zP z < 5) : ∃ f' g', ur_call ur_G (d + 1) 19 [.ref L, .long (lN (wN 32 ws)), .int (nI kk), .int (nI ag), .int (nI hm)] (s, f, g, R) = some (0, (s, f', g', R)) ∧ cS f' g' q i ∧ xLn f' g' L (addP z ws kk ag hm) told ∧ eqT (TLa L) f f' ∧ eqL (GLa L) g g' := by
  obtain ⟨⟨a1, a2, a3, a4, a5⟩, b1, b2, b3⟩ := hx
  obtain ⟨f2, hf2⟩ : ∃ f2, f2 = ur_u (ur_u (ur_u (ur_u f (L + 5) (zP z) (nI kk)) (L + 6) (zP z) (nI ag)) (L + 7) (zP z) (nI hm)) L 12 (nI (zP z + 1)) := ⟨_, rfl⟩
  have t2 : eqT (fun x k => (x = L ∧ k = 12) ∨ ((x = L + 5 ∨ x = L + 6 ∨ x = L + 7) ∧ k = zP z)) f f2 := by
    rw [hf2]
    exact (((eqT_u (by omega)).u (by omega)).u (by omega)).u (by omega)
  have tg : eqL (fun x k => x = L + 4 ∧ k = zP z) g (ur_u g (L + 4) (zP z) (lN (wN 32 ws))) := eqL_u ⟨rfl, rfl⟩
  refine ⟨f2, ur_u g (L + 4) (zP z) (lN (wN 32 ws)), ur_cl hL.rcv rfl (e_X1_addPerson_0 _ _ _ _ _ _ ?_), hc.fr t2 tg (fun k h1 h2 z => by omega) (fun k z => by omega) (by omega), ⟨⟨by rw [t2 _ _ (by omega), a1], by rw [t2 _ _ (by omega), a2]; rfl, by rw [t2 _ _ (by omega), a3]; rfl, by rw [t2 _ _ (by omega), a4]; rfl, by rw [hf2, ur_us]; rfl⟩, fun r hr => by rw [tg _ _ (by omega), t2 _ _ (by omega)]; exact b1 r hr, fun r hr => by rw [t2 _ _ (by omega)]; exact b2 r hr, fun p hp => ?_⟩, t2.mono (fun x k z => by unfold TLa; omega), tg.mono (fun x k z => by unfold GLa; omega)⟩
  · have w4 : ur_wL (s, f, g, R) (L + 4) (nI (zP z)) (lN (wN 32 ws)) = some (s, f, ur_u g (L + 4) (zP z) (lN (wN 32 ws)), R) := hL.w4 hP
    have n5 : decide ((5 : Int32) ≤ nI (zP z)) = false := decide_eq_false (nI_ge (b := 5) hP (by decide))
    have o1 : ur_u f (L + 5) (zP z) (nI kk) L 12 = nI (zP z) := by rw [ur_ua (by omega), a5]
    have o2 : ur_u (ur_u f (L + 5) (zP z) (nI kk)) (L + 6) (zP z) (nI ag) L 12 = nI (zP z) := by rw [ur_ua (by omega), o1]
    have o3 : ur_u (ur_u (ur_u f (L + 5) (zP z) (nI kk)) (L + 6) (zP z) (nI ag)) (L + 7) (zP z) (nI hm) L 12 = nI (zP z) := by rw [ur_ua (by omega), o2]
    simp only [hL.I, hL.pI, Option.bind_some, a5, n5, cond_false, hL.r3, w4, hL.r4, hL.w5 hP, o1, hL.r5, hL.w6 hP, o2, hL.r6, hL.w7 hP, o3, nI_1, ← hf2]
  · have hp' : p < zP z + 1 := hp
    show _ = lN (wN 32 (upA (zPn z) (zP z) ws p)) ∧ _ = nI (upA (zKi z) (zP z) kk p) ∧ _ = nI (upA (zAg z) (zP z) ag p) ∧ _ = nI (upA (zHm z) (zP z) hm p)
    by_cases e : p = zP z
    · rw [e, upA_s, upA_s, upA_s, upA_s, ur_usg, hf2]
      refine ⟨rfl, ?_, ?_, ?_⟩
      · rw [ur_ua (by omega), ur_ua (by omega), ur_ua (by omega), ur_us]
      · rw [ur_ua (by omega), ur_ua (by omega), ur_us]
      · rw [ur_ua (by omega), ur_us]
    · rw [upA_n e, upA_n e, upA_n e, upA_n e, tg _ _ (by omega), t2 _ _ (by omega), t2 _ _ (by omega), t2 _ _ (by omega)]
      exact b3 p (by omega)
theorem x_pers (hO : oTape s R 1) (hS : s.length ≤ 1000) (hL : oLand s R L) (hL3 : 3 ≤ L) (hc : cS f g q i) (h : xLn f g L z told) (hz : zW z) : ∃ v f' g', ur_call ur_G (d + 10) 18 [.ref L, .ref 1] (s, f, g, R) = some (v, (s, f', g', R)) ∧ cSR f' g' q L told (pPers q z i) v ∧ eqT (TLa L) f f' ∧ eqL (GLa L) g g' := by
  have h8 := hz.1.1
  have h5 := hz.1.2.1
  have d5 : decide (nI (zP z) < (5 : Int32)) = decide (zP z < 5) := d_lt (b := 5) (by omega) (by decide)
  unfold pPers
  by_cases hP : 5 ≤ zP z
  · rw [if_pos hP]
    have fl := x_fl (d := d + 8) hO hc (k := 5) (v := 5) rfl
    refine ⟨0, _, g, ur_cl hL.rcv rfl (e_X1_readPerson_0 _ _ _ ?_), ⟨rfl, ur_us⟩, eqT_u (Or.inl ⟨rfl, by decide, by decide⟩), eqL.refl⟩
    simp only [hL.I, Option.bind_some, h.1.2.2.2.2, d5, decide_eq_false (show ¬ zP z < 5 by omega), cond_false, fl]
    rfl
  · rw [if_neg hP]
    obtain ⟨f1, g1, a1, a2, a3, a4⟩ := x_adv (d := d + 1) hO hS hc
    have x1 := h.tp hL3 a3 a4
    obtain ⟨b1, b2⟩ := x_new (d := d) hO hS hL hL3 a2 x1 hz
    by_cases e0 : pNew q z (enT q i) = 0
    · rw [if_neg (fun z => z e0)]
      obtain ⟨f2, g2, c1, c2, c3, c4, c5, k3⟩ := b2 e0
      have hwk : isW (kdT q (enT q i)) := Or.inl k3
      have ok := (tk_w a2.le hwk).1
      have gw := a2.w hwk
      have t2 : eqT (TLa L) f f2 := (a3.mono TF1_La).trans (c4.mono TF1_La)
      have u2 : eqL (GLa L) g g2 := (a4.mono GF1_La).trans (c5.mono GF1_La)
      have hkl2 := c2.kl
      have lo : decide (nI (kdT q (enT q (enT q i))) < (113 : Int32)) = decide (kdT q (enT q (enT q i)) < 113) := d_lt (b := 113) (by omega) (by decide)
      have hi : decide (nI (kdT q (enT q (enT q i))) ≤ (116 : Int32)) = decide (kdT q (enT q (enT q i)) ≤ 116) := d_le (b := 116) (by omega) (by decide)
      by_cases ek : kdT q (enT q (enT q i)) < 113 ∨ 116 < kdT q (enT q (enT q i))
      · rw [if_pos ek]
        have fl := x_fl (d := d + 8) hO c2 (k := 1) (v := 1) rfl
        refine ⟨0, ur_u f2 1 7 (nI (1 + 16 * bgT q (enT q (enT q i)))), g2, ur_cl hL.rcv rfl (e_X1_readPerson_0 _ _ _ ?_), ⟨rfl, ur_us⟩, t2.u (Or.inl ⟨rfl, by decide, by decide⟩), u2⟩
        simp only [hL.I, Option.bind_some, h.1.2.2.2.2, d5, decide_eq_true (show zP z < 5 by omega), cond_true, a1, hO.L, gw, c1, d10, hO.I, c2.kd, lo, hi, fl]
        rcases ek with ek | ek
        · rw [decide_eq_true ek]; rfl
        · rw [decide_eq_false (show ¬ kdT q (enT q (enT q i)) < 113 by omega), decide_eq_false (show ¬ kdT q (enT q (enT q i)) ≤ 116 by omega)]; rfl
      · rw [if_neg ek]
        have lo' : decide (nI (kdT q (enT q (enT q i))) < (113 : Int32)) = false := lo.trans (decide_eq_false (by omega))
        have hi' : decide (nI (kdT q (enT q (enT q i))) ≤ (116 : Int32)) = true := hi.trans (decide_eq_true (by omega))
        obtain ⟨f3, g3, v1, v2, v3, v4⟩ := x_adv (d := d + 1) hO hS c2
        have x3 := c3.tp hL3 v3 v4
        have t3 : eqT (TLa L) f f3 := t2.trans (v3.mono TF1_La)
        have u3 : eqL (GLa L) g g3 := u2.trans (v4.mono GF1_La)
        by_cases k105 : kdT q (enT q (enT q (enT q i))) = 105
        · rw [if_neg (fun z => z k105)]
          obtain ⟨f4, g4, w1, w2, w3, w4⟩ := x_take_y (d := d) hO hS v2 (v := 105) (c := 105) rfl k105
          have x4 := x3.tp hL3 w3 w4
          have t4 : eqT (TLa L) f f4 := t3.trans (w3.mono TF1_La)
          have u4 : eqL (GLa L) g g4 := u3.trans (w4.mono GF1_La)
          obtain ⟨n1, n2⟩ := x_num (d := d + 7) (s := s) (R := R) hO w2 (v := 0) (v' := 99) (lo := 0) (hi := 99) rfl rfl (by decide) (by decide)
          by_cases en : pNum q 0 99 (enT q (enT q (enT q (enT q i)))) = 0
          · rw [if_neg (fun z => z en)]
            obtain ⟨m1, m2, m3, m4⟩ := n2 en
            have e6 : f4 1 6 = nI (nmT q (enT q (enT q (enT q (enT q i))))) := w2.nu m2
            obtain ⟨f5, g5, y1, y2, y3, y4⟩ := x_adv (d := d + 1) hO hS w2
            have x5 := x4.tp hL3 y3 y4
            have t5 : eqT (TLa L) f f5 := t4.trans (y3.mono TF1_La)
            have u5 : eqL (GLa L) g g5 := u4.trans (y4.mono GF1_La)
            by_cases k106 : kdT q (enT q (enT q (enT q (enT q (enT q i))))) = 106
            · rw [if_neg (fun z => z k106)]
              obtain ⟨f6, g6, o1, o2, o3, o4⟩ := x_take_y (d := d) hO hS y2 (v := 106) (c := 106) rfl k106
              have x6 := x5.tp hL3 o3 o4
              have t6 : eqT (TLa L) f f6 := t5.trans (o3.mono TF1_La)
              have u6 : eqL (GLa L) g g6 := u5.trans (o4.mono GF1_La)
              obtain ⟨r1, r2⟩ := x_rnm (d := d + 6) hO hL o2 x6 hz
              by_cases er : pRnm q z (enT q (enT q (enT q (enT q (enT q (enT q i)))))) = 0
              · rw [if_neg (fun z => z er)]
                obtain ⟨l1, l2, kr, kr1, kr2, kr3, kr4⟩ := r2 er
                have gw6 := o2.w (Or.inl l2)
                have kr9 := kr4 (d + 8)
                rw [kr3]
                have un := x_unsL (d := d + 7) hL x6 hz kr1
                by_cases eh : 0 < zHo z kr
                · rw [if_pos eh]
                  have fl := x_fl (d := d + 8) hO o2 (k := 2) (v := 2) rfl
                  rw [decide_eq_true eh] at un
                  refine ⟨0, _, g6, ur_cl hL.rcv rfl (e_X1_readPerson_0 _ _ _ ?_), ⟨rfl, ur_us⟩, t6.u (Or.inl ⟨rfl, by decide, by decide⟩), u6⟩
                  simp only [hL.I, Option.bind_some, h.1.2.2.2.2, d5, decide_eq_true (show zP z < 5 by omega), cond_true, a1, hO.L, gw, c1, d10, hO.I, c2.kd, lo', hi', cond_false, v1, w1, e10, m1, e6, y1, o1, l1, gw6, kr9, un, show ur_b true = (1 : Int32) from rfl, fl]
                  rfl
                · rw [if_neg eh]
                  rw [decide_eq_false eh] at un
                  obtain ⟨f7, g7, p1, p2, p3, p4⟩ := x_adv (d := d + 1) hO hS o2
                  have x7 := x6.tp hL3 p3 p4
                  obtain ⟨f8, g8, j1, j2, j3, j4, j5⟩ := x_addP (d := d + 8) (ws := wlT q (enT q i)) (kk := kdT q (enT q (enT q i)) - 113) (ag := nmT q (enT q (enT q (enT q (enT q i))))) (hm := kr) hL hL3 p2 x7 hz (by omega)
                  have ksub : nI (kdT q (enT q (enT q i))) - (113 : Int32) = nI (kdT q (enT q (enT q i)) - 113) := by rw [show (113 : Int32) = nI 113 from rfl, pk_sub (by omega)]
                  refine ⟨1, f8, g8, ur_cl hL.rcv rfl (e_X1_readPerson_0 _ _ _ ?_), ⟨rfl, j2, j3⟩, (t6.trans (p3.mono TF1_La)).trans j4, (u6.trans (p4.mono GF1_La)).trans j5⟩
                  simp only [hL.I, Option.bind_some, h.1.2.2.2.2, d5, decide_eq_true (show zP z < 5 by omega), cond_true, a1, hO.L, gw, c1, d10, hO.I, c2.kd, lo', hi', cond_false, v1, w1, e10, m1, e6, y1, o1, l1, gw6, kr9, un, show ur_b false = (0 : Int32) from rfl, e00, decide_true, p1, ksub, j1]
              · rw [if_pos er]
                refine ⟨0, _, g6, ur_cl hL.rcv rfl (e_X1_readPerson_0 _ _ _ ?_), ⟨rfl, ur_us⟩, t6.u (Or.inl ⟨rfl, by decide, by decide⟩), u6⟩
                simp only [hL.I, Option.bind_some, h.1.2.2.2.2, d5, decide_eq_true (show zP z < 5 by omega), cond_true, a1, hO.L, gw, c1, d10, hO.I, c2.kd, lo', hi', cond_false, v1, w1, e10, m1, e6, y1, o1, r1 er, d00]
            · rw [if_pos k106]
              have cn := x_take_n (d := d) hO y2 (v := 106) (c := 106) rfl (by decide) k106
              refine ⟨0, _, g5, ur_cl hL.rcv rfl (e_X1_readPerson_0 _ _ _ ?_), ⟨rfl, ur_us⟩, t5.u (Or.inl ⟨rfl, by decide, by decide⟩), u5⟩
              simp only [hL.I, Option.bind_some, h.1.2.2.2.2, d5, decide_eq_true (show zP z < 5 by omega), cond_true, a1, hO.L, gw, c1, d10, hO.I, c2.kd, lo', hi', cond_false, v1, w1, e10, m1, e6, y1, cn, e00, decide_true]
          · rw [if_pos en]
            refine ⟨0, _, g4, ur_cl hL.rcv rfl (e_X1_readPerson_0 _ _ _ ?_), ⟨rfl, ur_us⟩, t4.u (Or.inl ⟨rfl, by decide, by decide⟩), u4⟩
            simp only [hL.I, Option.bind_some, h.1.2.2.2.2, d5, decide_eq_true (show zP z < 5 by omega), cond_true, a1, hO.L, gw, c1, d10, hO.I, c2.kd, lo', hi', cond_false, v1, w1, e10, n1 en, d00]
        · rw [if_pos k105]
          have cn := x_take_n (d := d) hO v2 (v := 105) (c := 105) rfl (by decide) k105
          refine ⟨0, _, g3, ur_cl hL.rcv rfl (e_X1_readPerson_0 _ _ _ ?_), ⟨rfl, ur_us⟩, t3.u (Or.inl ⟨rfl, by decide, by decide⟩), u3⟩
          simp only [hL.I, Option.bind_some, h.1.2.2.2.2, d5, decide_eq_true (show zP z < 5 by omega), cond_true, a1, hO.L, gw, c1, d10, hO.I, c2.kd, lo', hi', cond_false, v1, cn, e00, decide_true]
    · rw [if_pos e0]
      refine ⟨0, _, g1, ur_cl hL.rcv rfl (e_X1_readPerson_0 _ _ _ ?_), ⟨rfl, ur_us⟩, (a3.mono TF1_La).u (Or.inl ⟨rfl, by decide, by decide⟩), a4.mono GF1_La⟩
      simp only [hL.I, Option.bind_some, h.1.2.2.2.2, d5, decide_eq_true (show zP z < 5 by omega), cond_true, a1, hO.L, b1 e0, d00, cond_false]
end URLY

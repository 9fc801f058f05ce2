/-! THE CLASS READS A TEXT -/
def xZ (f : Nat → Nat → Int32) (g : Nat → Nat → Int64) (L : Nat) (z : uPL) (t : uTl) : Prop := xLn f g L z t.isSome ∧ lawX f (L + 8) (tlR t)
def TZa (L : Nat) : Nat → Nat → Prop := fun a k => (a = 1 ∧ 2 ≤ k ∧ k ≤ 7) ∨ (L ≤ a ∧ a < L + 10)
def cSZ (f : Nat → Nat → Int32) (g : Nat → Nat → Int64) (q : Nat × (Nat → Nat)) (L : Nat) (o : uSZ) (v : Int32) : Prop := match o with
  | .inl F => v = 0 ∧ f 1 7 = nI F
  | .inr x => v = 1 ∧ cS f g q x.1 ∧ xZ f g L x.2.1 x.2.2
def cAZ (f : Nat → Nat → Int32) (g : Nat → Nat → Int64) (L : Nat) (o : uAZ) (v : Int32) : Prop := match o with
  | .inl F => v = nI F
  | .inr x => v = 0 ∧ xZ f g L x.1 x.2
section URRX
variable {s : List (Nat ⊕ (Nat × Nat))} {f f' f1 f2 : Nat → Nat → Int32} {g g' : Nat → Nat → Int64} {R : Nat → Nat → Option Nat} {d i k L : Nat} {q : Nat × (Nat → Nat)} {z : uPL} {t : uTl} {v : Int32}
theorem TLa_Za : ∀ a k, TLa L a k → TZa L a k := fun a k y => by unfold TLa at y; unfold TZa; omega
theorem TF1_Za : ∀ a k, TF1 a k → TZa L a k := fun a k y => Or.inl y
theorem TE_Za : ∀ a k, TE (L + 8) a k → TZa L a k := fun a k y => by unfold TE at y; unfold TZa; omega
theorem cSR.lift {o : uSR} (h : cSR f' g' q L t.isSome o v) (hl : lawX f (L + 8) (tlR t)) (hL : 3 ≤ L) (e : eqT (TLa L) f f') : cSZ f' g' q L (lfT t o) v := by
  cases o with
  | inl F => exact h
  | inr x => exact ⟨h.1, h.2.1, h.2.2, hl.fr e (by unfold TLa; omega) (fun k y => by unfold TLa at y; omega)⟩
theorem x_stay (hO : oTape s R 1) (hS : s.length ≤ 1000) (hL : oLand s R L) (hA : oLaw s R (L + 8)) (hL3 : 3 ≤ L) (hc : cS f g q i) (h : xZ f g L z t) : ∃ v f' g', ur_call ur_G (d + 50) 20 [.ref L, .ref 1] (s, f, g, R) = some (v, (s, f', g', R)) ∧ cSZ f' g' q L (pStay q z t i) v ∧ eqT (TZa L) f f' ∧ eqL (GLa L) g g' := by
  cases t with
  | some y =>
    have e8 : f L 8 = 1 := h.1.1.1
    have fl := x_fl (d := d + 48) hO hc (k := 3) (v := 3) rfl
    refine ⟨0, ur_u f 1 7 (nI (3 + 16 * bgT q i)), g, ur_cl hL.rcv rfl (e_X1_readStays_0 _ _ _ ?_), ⟨rfl, ur_us⟩, eqT_u (Or.inl ⟨rfl, by decide, by decide⟩), eqL.refl⟩
    simp only [hL.I, Option.bind_some, e8, e10, cond_false, fl]
    rfl
  | none =>
    have e8 : f L 8 = 0 := h.1.1.1
    have t1 : eqT (fun a k => a = L ∧ k = 8) f (ur_u f L 8 1) := eqT_u ⟨rfl, rfl⟩
    obtain ⟨f1, hf1⟩ : ∃ f1, f1 = ur_u f L 8 1 := ⟨_, rfl⟩
    rw [← hf1] at t1
    have pz : ur_pZ (s, f, g, R) L 1 8 (1 : Int32) = some (s, f1, g, R) := by rw [hf1]; exact vpZ hL.o (Or.inr rfl)
    have c1 : cS f1 g q i := hc.fr t1 (eqL.refl (T := fun _ _ => False)) (fun k h1 h2 y => by omega) (fun k y => by omega) (fun y => y)
    have x1 : xLn f1 g L z true := by
      obtain ⟨⟨a1, a2, a3, a4, a5⟩, b1, b2, b3⟩ := h.1
      refine ⟨⟨by rw [hf1]; exact ur_us, by rw [t1 _ _ (by omega), a2], by rw [t1 _ _ (by omega), a3], by rw [t1 _ _ (by omega), a4], by rw [t1 _ _ (by omega), a5]⟩, fun r hr => ?_, fun r hr => by rw [t1 _ _ (by omega), b2 r hr], fun p hp => ?_⟩
      · rw [t1 _ _ (by omega)]; exact b1 r hr
      · rw [t1 _ _ (by omega), t1 _ _ (by omega), t1 _ _ (by omega)]; exact b3 p hp
    have w1 : lawX f1 (L + 8) [] := h.2.fr t1 (by omega) (fun k y => by omega)
    obtain ⟨f2, g2, a1, a2, a3, a4⟩ := x_adv (d := d + 41) hO hS c1
    have x2 := x1.tp hL3 a3 a4
    have w2 : lawX f2 (L + 8) [] := w1.fr a3 (by unfold TF1; omega) (fun k y => by unfold TF1 at y; omega)
    have hle := (tk_next hc.le).1
    obtain ⟨v, f3, g3, v1, v2, v3, v4⟩ := (x_E hO hA hS (by omega) (q := q) (10 * q.1 + 5)).2.1 d 0 0 5 (enT q i) [] [] false f2 g2 (by decide) rfl (by omega) a2 w2 (Nat.zero_le _)
    have v1' : ur_call ur_G (d + 49) 22 [.ref (L + 8), .ref 1, .int (0 : Int32), .int (0 : Int32)] (s, f2, g2, R) = some (v, (s, f3, g3, R)) := v1
    have x3 : xLn f3 g3 L z true := x2.fr v3 v4 (fun a k h1 h2 y => by unfold TE at y; omega) (fun a k h1 h2 y => by unfold GF1 at y; omega)
    have tt : eqT (TZa L) f f3 := ((t1.mono (fun a k y => by unfold TZa; omega)).trans (a3.mono TF1_Za)).trans (v3.mono TE_Za)
    have tg : eqL (GLa L) g g3 := (a4.mono GF1_La).trans (v4.mono GF1_La)
    have fit : ur_fit 1 v = true ∧ cSZ f3 g3 q L (pStay q z none i) v := by
      show _ ∧ cSZ f3 g3 q L (stE z (pE q (10 * q.1 + 5) 0 0 (enT q i) [] [] false)) v
      revert v2
      cases pE q (10 * q.1 + 5) 0 0 (enT q i) [] [] false with
      | inl F => exact fun v2 => ⟨by rw [v2.1]; decide, v2⟩
      | inr x => exact fun v2 => ⟨by rw [v2.1]; decide, v2.1, v2.2.1, x3, v2.2.2⟩
    refine ⟨v, f3, g3, ur_cl hL.rcv rfl (e_X1_readStays_0 _ _ _ ?_), fit.2, tt, tg⟩
    simp only [hL.I, Option.bind_some, e8, e00, decide_true, cond_true, pz, a1, hL.r7, v1', fit.1]
/-- one statement -/
theorem x_one (hO : oTape s R 1) (hS : s.length ≤ 1000) (hL : oLand s R L) (hA : oLaw s R (L + 8)) (hL3 : 3 ≤ L) (hc : cS f g q i) (h : xZ f g L z t) (hz : zW z) (h1 : kdT q i ≠ 1) (hk : k < 1000) : ∃ v f' g', cSZ f' g' q L (pSt q z t i) v ∧ eqT (TZa L) f f' ∧ eqL (GLa L) g g' ∧ ∀ rr, ur_at ur_G (d + 50) 12 (133, [some (.ref L), some (.ref 1), some (.int v), some (.int (nI k))], [], (s, f', g', R)) = some rr → ur_at ur_G (d + 50) 12 (12, [some (.ref L), some (.ref 1), some (.int 1), some (.int (nI k))], [], (s, f, g, R)) = some rr := by
  have hkl := hc.kl
  have dk : ∀ c : Nat, c < 2 ^ 31 → decide (nI (kdT q i) = nI c) = decide (kdT q i = c) := fun c h => d_eq (by omega) h
  have k1 : decide (nI (kdT q i) = (1 : Int32)) = false := (dk 1 (by decide)).trans (decide_eq_false h1)
  have kk : decide ((1000 : Int32) ≤ nI k) = false := (d_le (a := 1000) (by decide) (by omega)).trans (decide_eq_false (by omega))
  have d100 : decide (nI (kdT q i) = (100 : Int32)) = decide (kdT q i = 100) := dk 100 (by decide)
  have d101 : decide (nI (kdT q i) = (101 : Int32)) = decide (kdT q i = 101) := dk 101 (by decide)
  have d102 : decide (nI (kdT q i) = (102 : Int32)) = decide (kdT q i = 102) := dk 102 (by decide)
  have d103 : decide (nI (kdT q i) = (103 : Int32)) = decide (kdT q i = 103) := dk 103 (by decide)
  have d104 : decide (nI (kdT q i) = (104 : Int32)) = decide (kdT q i = 104) := dk 104 (by decide)
  have d105 : decide (nI (kdT q i) = (105 : Int32)) = decide (kdT q i = 105) := dk 105 (by decide)
  have d106 : decide (nI (kdT q i) = (106 : Int32)) = decide (kdT q i = 106) := dk 106 (by decide)
  have d107 : decide (nI (kdT q i) = (107 : Int32)) = decide (kdT q i = 107) := dk 107 (by decide)
  unfold pSt
  by_cases e0 : kdT q i = 100
  · rw [if_pos e0]
    obtain ⟨v, f2, g2, b1, b2, b3, b4⟩ := x_room (d := d + 40) (sil := false) hO hS hL hL3 hc h.1 hz
    have b1' : ur_call ur_G (d + 50) 13 [.ref L, .ref 1, .int (0 : Int32)] (s, f, g, R) = some (v, (s, f2, g2, R)) := b1
    refine ⟨v, f2, g2, b2.lift h.2 hL3 b3, b3.mono TLa_Za, b4, fun rr hr => e_X1_readFrom_12 _ _ _ _ _ ?_⟩
    simp only [kk, cond_false, e10, hO.I, Option.bind_some, hc.kd, k1, d100, decide_eq_true e0, cond_true, b1']
    exact hr
  · rw [if_neg e0]
    by_cases e1 : kdT q i = 101
    · rw [if_pos e1]
      obtain ⟨v, f2, g2, b1, b2, b3, b4⟩ := x_room (d := d + 40) (sil := true) hO hS hL hL3 hc h.1 hz
      have b1' : ur_call ur_G (d + 50) 13 [.ref L, .ref 1, .int (1 : Int32)] (s, f, g, R) = some (v, (s, f2, g2, R)) := b1
      refine ⟨v, f2, g2, b2.lift h.2 hL3 b3, b3.mono TLa_Za, b4, fun rr hr => e_X1_readFrom_12 _ _ _ _ _ ?_⟩
      simp only [kk, cond_false, e10, hO.I, Option.bind_some, hc.kd, k1, d100, decide_eq_false e0, d101, decide_eq_true e1, cond_true, b1']
      exact hr
    · rw [if_neg e1]
      by_cases e3 : kdT q i = 103
      · rw [if_pos e3]
        obtain ⟨v, f2, g2, b1, b2, b3, b4⟩ := x_door (d := d + 41) hO hS hL hL3 hc h.1 hz
        refine ⟨v, f2, g2, b2.lift h.2 hL3 b3, b3.mono TLa_Za, b4, fun rr hr => e_X1_readFrom_12 _ _ _ _ _ ?_⟩
        simp only [kk, cond_false, e10, hO.I, Option.bind_some, hc.kd, k1, d100, decide_eq_false e0, d101, decide_eq_false e1, d102, decide_eq_false (show ¬ kdT q i = 102 by omega), d103, decide_eq_true e3, cond_true, b1]
        exact hr
      · rw [if_neg e3]
        by_cases e4 : kdT q i = 104
        · rw [if_pos e4]
          obtain ⟨v, f2, g2, b1, b2, b3, b4⟩ := x_pers (d := d + 40) hO hS hL hL3 hc h.1 hz
          refine ⟨v, f2, g2, b2.lift h.2 hL3 b3, b3.mono TLa_Za, b4, fun rr hr => e_X1_readFrom_12 _ _ _ _ _ ?_⟩
          simp only [kk, cond_false, e10, hO.I, Option.bind_some, hc.kd, k1, d100, decide_eq_false e0, d101, decide_eq_false e1, d102, decide_eq_false (show ¬ kdT q i = 102 by omega), d103, decide_eq_false e3, d104, decide_eq_true e4, cond_true, b1]
          exact hr
        · rw [if_neg e4]
          by_cases e7 : kdT q i = 107
          · rw [if_pos e7]
            obtain ⟨v, f2, g2, b1, b2, b3, b4⟩ := x_stay (d := d) hO hS hL hA hL3 hc h
            refine ⟨v, f2, g2, b2, b3, b4, fun rr hr => e_X1_readFrom_12 _ _ _ _ _ ?_⟩
            simp only [kk, cond_false, e10, hO.I, Option.bind_some, hc.kd, k1, d100, decide_eq_false e0, d101, decide_eq_false e1, d102, decide_eq_false (show ¬ kdT q i = 102 by omega), d103, decide_eq_false e3, d104, decide_eq_false e4, d105, decide_eq_false (show ¬ kdT q i = 105 by omega), d106, decide_eq_false (show ¬ kdT q i = 106 by omega), d107, decide_eq_true e7, cond_true, b1]
            exact hr
          · rw [if_neg e7]
            have fl := x_fl (d := d + 49) hO hc (k := 1) (v := 1) rfl
            refine ⟨0, ur_u f 1 7 (nI (1 + 16 * bgT q i)), g, ⟨rfl, ur_us⟩, eqT_u (Or.inl ⟨rfl, by decide, by decide⟩), eqL.refl, fun rr hr => e_X1_readFrom_12 _ _ _ _ _ ?_⟩
            simp only [kk, cond_false, e10, hO.I, Option.bind_some, hc.kd, k1, d100, decide_eq_false e0, d101, decide_eq_false e1, d102, d103, decide_eq_false e3, d104, decide_eq_false e4, d105, d106, d107, decide_eq_false e7, fl]
            cases decide (kdT q i = 102) <;> cases decide (kdT q i = 105) <;> cases decide (kdT q i = 106) <;> exact hr
theorem x_off (hO : oTape s R 1) {p : Int32} (h : f 1 7 = v) : ur_at ur_G (d + 50) 12 (12, [some (.ref L), some (.ref 1), some (.int 0), some (.int p)], [], (s, f, g, R)) = some (v, (s, f, g, R)) := by
  refine e_X1_readFrom_12 _ _ _ _ _ ?_
  simp only [hO.I, Option.bind_some, h, e00, decide_true, cond_true]
  cases decide ((1000 : Int32) ≤ p) <;> rfl
theorem x_all (hO : oTape s R 1) (hS : s.length ≤ 1000) (hL : oLand s R L) (hA : oLaw s R (L + 8)) (hL3 : 3 ≤ L) : ∀ (n i k : Nat) (z : uPL) (t : uTl) (f : Nat → Nat → Int32) (g : Nat → Nat → Int64), q.1 - i < n → k ≤ i → cS f g q i → xZ f g L z t → zW z → tlW t → ∃ v f' g', ur_at ur_G (d + 50) 12 (12, [some (.ref L), some (.ref 1), some (.int 1), some (.int (nI k))], [], (s, f, g, R)) = some (v, (s, f', g', R)) ∧ cAZ f' g' L (pAll q n i z t) v ∧ eqT (TZa L) f f' ∧ eqL (GLa L) g g'
  | 0, _, _, _, _, _, _, hn, _, _, _, _, _ => absurd hn (Nat.not_lt_zero _)
  | n + 1, i, k, z, t, f, g, hn, hk, hc, h, hz, ht => by
    have hle := hc.1.le
    have hi := hc.le
    show ∃ v f' g', _ ∧ cAZ f' g' L (if kdT q i = 1 then .inr (z, t) else uAb (pCz q (pSt q z t i)) (fun x => pAll q n x.1 x.2.1 x.2.2)) v ∧ _
    by_cases h1 : kdT q i = 1
    · rw [if_pos h1]
      refine ⟨0, f, g, e_X1_readFrom_12 _ _ _ _ _ ?_, ⟨rfl, h⟩, eqT.refl, eqL.refl⟩
      simp only [hO.I, Option.bind_some, hc.f7, hc.kd, h1, show decide (nI 1 = (1 : Int32)) = true from by decide, cond_true, e10, cond_false]
      cases decide ((1000 : Int32) ≤ nI k) <;> rfl
    · rw [if_neg h1]
      have hlt : i < q.1 := by
        have a := (tk_next hi).2.1 h1
        have b := (tk_next hi).1
        omega
      obtain ⟨v, f2, g2, b1, b2, b3, b4⟩ := x_one (d := d) (k := k) hO hS hL hA hL3 hc h hz h1 (by omega)
      have nk : nI k + (1 : Int32) = nI (k + 1) := nI_1 k
      cases e : pSt q z t i with
      | inl F =>
        rw [e] at b1
        have b1' : v = 0 ∧ f2 1 7 = nI F := b1
        refine ⟨nI F, f2, g2, b4 _ (e_X1_readFrom_133 _ _ _ _ _ ?_), rfl, b2, b3⟩
        rw [b1'.1]
        simp only [e00, decide_true, cond_true]
        exact x_off hO b1'.2
      | inr x =>
        rw [e] at b1
        have b1' : v = 1 ∧ cS f2 g2 q x.1 ∧ xZ f2 g2 L x.2.1 x.2.2 := b1
        obtain ⟨o1, o2, o3, o4⟩ := pSt_ok hc.sm hle hi hz ht e
        show ∃ v f' g', _ ∧ cAZ f' g' L (uAb (if kdT q x.1 = 59 then .inr (enT q x.1, x.2) else .inl (1 + 16 * bgT q x.1)) (fun x => pAll q n x.1 x.2.1 x.2.2)) v ∧ _
        by_cases k59 : kdT q x.1 = 59
        · rw [if_pos k59]
          obtain ⟨f3, g3, c1, c2, c3, c4⟩ := x_take_y (d := d + 41) hO hS b1'.2.1 (v := 59) (c := 59) rfl k59
          have x3 : xZ f3 g3 L x.2.1 x.2.2 := ⟨b1'.2.2.1.tp hL3 c3 c4, b1'.2.2.2.fr c3 (by unfold TF1; omega) (fun k y => by unfold TF1 at y; omega)⟩
          have up := (tk_next o2).2.1 (by omega)
          have ul := (tk_next o2).1
          obtain ⟨w, f4, g4, d1, d2, d3, d4⟩ := x_all hO hS hL hA hL3 n (enT q x.1) (k + 1) x.2.1 x.2.2 f3 g3 (by omega) (by omega) c2 x3 o3 o4
          refine ⟨w, f4, g4, b4 _ (e_X1_readFrom_133 _ _ _ _ _ ?_), d2, (b2.trans (c3.mono TF1_Za)).trans d3, (b3.trans (c4.mono GF1_La)).trans d4⟩
          rw [b1'.1]
          simp only [e10, cond_false, c1, Option.bind_some, nk]
          exact d1
        · rw [if_neg k59]
          have cn := x_take_n (d := d + 41) hO b1'.2.1 (v := 59) (c := 59) rfl (by decide) k59
          refine ⟨nI (1 + 16 * bgT q x.1), ur_u f2 1 7 (nI (1 + 16 * bgT q x.1)), g2, b4 _ (e_X1_readFrom_133 _ _ _ _ _ ?_), rfl, b2.u (Or.inl ⟨rfl, by decide, by decide⟩), b3⟩
          rw [b1'.1]
          simp only [e10, cond_false, cn, Option.bind_some, e00, decide_true, cond_true]
          exact x_off hO ur_us
end URRX

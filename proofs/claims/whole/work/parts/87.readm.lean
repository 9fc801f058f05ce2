/-! THE REFERENCE READS A TEXT -/
def mZ (f : Nat → Nat → Int32) (g : Nat → Nat → Int64) (z : uPL) (t : uTl) : Prop := mLn f g z ∧ lawM f (tlC t) ∧ f 218 1 = nI 1000 ∧ f 219 1 = nI (1000 + (tlC t).length)
def TMz : Nat → Nat → Prop := fun a k => TMa a k ∨ TG a k ∨ ((a = 218 ∨ a = 219) ∧ k = 1)
def mSZ (f : Nat → Nat → Int32) (g : Nat → Nat → Int64) (q : Nat × (Nat → Nat)) (o : uSZ) (v : Int32) : Prop := match o with
  | .inl F => v = 0 ∧ f 208 9 = nI F
  | .inr x => v = 1 ∧ mS f g q x.1 ∧ mZ f g x.2.1 x.2.2
def mAZ (f : Nat → Nat → Int32) (g : Nat → Nat → Int64) (o : uAZ) (v : Int32) : Prop := match o with
  | .inl F => v = 0 ∧ f 208 9 = nI F
  | .inr x => v = 1 ∧ mZ f g x.1 x.2
section URRM
variable {s : List (Nat ⊕ (Nat × Nat))} {f f' f1 f2 : Nat → Nat → Int32} {g g' : Nat → Nat → Int64} {R : Nat → Nat → Option Nat} {d i k : Nat} {q : Nat × (Nat → Nat)} {z : uPL} {t : uTl} {v : Int32}
theorem TMa_Mz : ∀ a k, TMa a k → TMz a k := fun a k y => Or.inl y
theorem TG_Mz : ∀ a k, TG a k → TMz a k := fun a k y => Or.inr (Or.inl y)
theorem TF2_Mz : ∀ a k, TF2 a k → TMz a k := fun a k y => Or.inl (TF2_Ma a k y)
theorem mZ.law {c : List Int32} (h : lawM f c) (h1 : f 218 1 = nI 1000) (h2 : f 219 1 = nI (1000 + c.length)) (e : eqT TMa f f') : lawM f' c ∧ f' 218 1 = nI 1000 ∧ f' 219 1 = nI (1000 + c.length) :=
  ⟨h.fr e (by unfold TMa; omega) (fun k y => by unfold TMa at y; omega), by rw [e _ _ (by unfold TMa; omega)]; exact h1, by rw [e _ _ (by unfold TMa; omega)]; exact h2⟩
theorem mSR.lift {o : uSR} (h : mSR f' g' q (pCl q o) v) (hl : mZ f g z t) (e : eqT TMa f f') : mSZ f' g' q (pCz q (lfT t o)) v := by
  have l := mZ.law hl.2.1 hl.2.2.1 hl.2.2.2 e
  cases o with
  | inl F => exact h
  | inr x =>
    have h' : mSR f' g' q (if kdT q x.1 = 59 then .inr (enT q x.1, x.2) else .inl (1 + 16 * bgT q x.1)) v := h
    show mSZ f' g' q (if kdT q x.1 = 59 then .inr (enT q x.1, x.2, t) else .inl (1 + 16 * bgT q x.1)) v
    by_cases k : kdT q x.1 = 59
    · rw [if_pos k] at h' ⊢
      exact ⟨h'.1, h'.2.1, h'.2.2, l⟩
    · rw [if_neg k] at h' ⊢
      exact h'
theorem m_stay (hM : oModel s R 208) (hs : mS f g q i) (h : mZ f g z t) (ht : tlW t) : ∃ v f' g', ur_call ur_G (d + 4) 166 [.ref 208] (s, f, g, R) = some (v, (s, f', g', R)) ∧ mSZ f' g' q (pCz q (pStay q z t i)) v ∧ eqT TMz f f' ∧ eqL GMa g g' := by
  have a10 : ur_aI (s, f, g, R) (208 + 10) 0 (1 : Int32) = some (f (208 + 10) 1) := hM.a10 (j := 1) (by decide)
  have a11 : ur_aI (s, f, g, R) (208 + 11) 0 (1 : Int32) = some (f (208 + 11) 1) := hM.a11 (j := 1) (by decide)
  have e18 : f (208 + 10) 1 = nI 1000 := h.2.2.1
  cases t with
  | some y =>
    obtain ⟨hn, -, hc, -⟩ := ht
    have e19 : f (208 + 11) 1 = nI (1000 + y.2.length) := h.2.2.2
    have le : decide (nI (1000 + y.2.length) ≤ nI 1000) = false := (d_le (by omega) (by decide)).trans (decide_eq_false (by omega))
    have fl := m_fl (d := d + 2) hM hs (k := 3) (v := 3) rfl
    refine ⟨0, ur_u f 208 9 (nI (3 + 16 * bgT q i)), g, ur_cl hM.rcv rfl (e_X10_readsStays_0 _ _ ?_), ⟨rfl, ur_us⟩, eqT_u (TMa_Mz _ _ (Or.inl ⟨rfl, Or.inl ⟨by decide, by decide⟩⟩)), eqL.refl⟩
    simp only [hM.r19, Option.bind_some, a11, e19, hM.r18, a10, e18, le, cond_false, fl]
    rfl
  | none =>
    have e19 : f (208 + 11) 1 = nI 1000 := h.2.2.2
    have e21 : f 208 21 = nI 1000 := h.2.1.1
    have le : decide (nI 1000 ≤ nI 1000) = true := by decide
    obtain ⟨f1, g1, a1, b1, c1, c2⟩ := m_nx (d := d + 1) hM hs
    have e21' : f1 208 21 = nI 1000 := by rw [c1 _ _ (by unfold TF2; omega)]; exact e21
    have w10 : ur_wI (s, f1, g1, R) (208 + 10) 0 (1 : Int32) (nI 1000) = some (s, ur_u f1 (208 + 10) 1 (nI 1000), g1, R) := hM.w10 (j := 1) (by decide)
    obtain ⟨f2, hf2⟩ : ∃ f2, f2 = ur_u f1 (208 + 10) 1 (nI 1000) := ⟨_, rfl⟩
    rw [← hf2] at w10
    have w14 : ur_wI (s, f2, g1, R) (208 + 14) 2 (0 : Int32) (ur_b false) = some (s, ur_u f2 222 0 (ur_b false), g1, R) := hM.w14 (j := 0) (by decide)
    obtain ⟨f3, hf3⟩ : ∃ f3, f3 = ur_u f2 222 0 (ur_b false) := ⟨_, rfl⟩
    rw [← hf3] at w14
    have nar0 : vp_nar .boolean (0 : Int32) = ur_b false := nar_b false
    have t2 : eqT (fun a k => a = 218 ∧ k = 1) f1 f2 := by rw [hf2]; exact eqT_u ⟨rfl, rfl⟩
    have t3 : eqT (fun a k => a = 222 ∧ k = 0) f2 f3 := by rw [hf3]; exact eqT_u ⟨rfl, rfl⟩
    have s3 : mS f3 g1 q (enT q i) := (b1.fr t2 (eqL.refl (T := fun _ _ => False)) (fun k _ _ y => by omega) (fun k y => by omega) (fun y => y)).fr t3 (eqL.refl (T := fun _ _ => False)) (fun k _ _ y => by omega) (fun k y => by omega) (fun y => y)
    have l3 : mLn f3 g1 z := ((h.1.tp c1 c2).fr t2 (eqL.refl (T := fun _ _ => False)) (fun a k h1 h2 y => by omega) (fun a k _ _ y => y)).fr t3 (eqL.refl (T := fun _ _ => False)) (fun a k h1 h2 y => by omega) (fun a k _ _ y => y)
    have k3 : lawM f3 [] := ⟨by rw [t3 _ _ (by omega), t2 _ _ (by omega)]; exact e21', fun k hk => absurd hk (Nat.not_lt_zero k)⟩
    have e18' : f3 218 1 = nI 1000 := by rw [t3 _ _ (by omega), hf2]; exact ur_us
    have hSt : mSt f3 g1 q (enT q i) [] 0 (fun _ => 1) (fun _ => false) := ⟨s3, k3, fun e h1 h2 => absurd h1 (by omega), fun e he => by
      have : e = 0 := by omega
      rw [this, hf3]; exact ur_us⟩
    have hle := (tk_next hs.le).1
    have H := (m_E hM (q := q) (10 * q.1 + 5)).2.1 d 0 0 (enT q i) [] [] f3 g1 (fun _ => 1) (fun _ => false) (by decide) (by decide) rfl (by omega) hSt (Nat.zero_le _) (fun _ => rfl)
    have tt : eqT TMz f f3 := ((c1.mono TF2_Mz).trans (t2.mono (fun a k y => by unfold TMz; omega))).trans (t3.mono (fun a k y => by unfold TMz TG; omega))
    have tg : eqL GMa g g1 := c2.mono GF2_Ma
    have go : ∀ (v : Int32) (f' : Nat → Nat → Int32) (g' : Nat → Nat → Int64), mAt s R d 11 0 1 f3 g1 = some (v, (s, f', g', R)) → ur_call ur_G (d + 3) 151 [.ref 208] (s, f2, g1, R) = some (v, (s, f', g', R)) := fun v f' g' hh => by
      refine ur_cl hM.rcv rfl (e_X10_reads_0 _ _ ?_)
      simp only [hM.r23, Option.bind_some, nar0, w14]
      exact hh
    show ∃ v f' g', _ ∧ mSZ f' g' q (pCz q (stE z (pE q (10 * q.1 + 5) 0 0 (enT q i) [] [] false))) v ∧ _
    cases e : pE q (10 * q.1 + 5) 0 0 (enT q i) [] [] false with
    | inl F =>
      have H' : mER s R q d 0 1 f3 g1 0 (fun _ => 1) (fun _ => false) true (pE q (10 * q.1 + 5) 0 0 (enT q i) [] [] false) := H
      rw [e] at H'
      obtain ⟨f4, g4, v1, v2, v3, v4⟩ := H'
      refine ⟨0, f4, g4, ur_cl hM.rcv rfl (e_X10_readsStays_0 _ _ ?_), ⟨rfl, v2⟩, tt.trans (v3.mono TG_Mz), tg.trans (v4.mono GF2_Ma)⟩
      simp only [hM.r19, Option.bind_some, a11, e19, hM.r18, a10, e18, le, cond_true, a1, hM.I, e21', w10, go _ _ _ v1, d00, cond_false]
    | inr x =>
      have H' : mER s R q d 0 1 f3 g1 0 (fun _ => 1) (fun _ => false) true (pE q (10 * q.1 + 5) 0 0 (enT q i) [] [] false) := H
      rw [e] at H'
      obtain ⟨f4, g4, v1, v3, v4, v5⟩ := H'
      have hx : exF 0 (kdT q x.1) x.2.2.2 := (pE_ex _ 0 0 _ _ _ _ x (by decide)).1 e
      have v1' : mSt f4 g4 q x.1 x.2.2.1 0 (fun _ => 1) (upA (fun _ => false) 0 x.2.2.2) := v1
      have hx' : exF 0 (kdT q x.1) (upA (fun _ => false) 0 x.2.2.2 0) := by rw [upA_s]; exact hx
      have l4 : mLn f4 g4 z := l3.fr v3 v4 (fun a k h1 h2 y => by unfold TG at y; omega) (fun a k h1 h2 y => by unfold GF2 at y; omega)
      have e18'' : f4 218 1 = nI 1000 := by rw [v3 _ _ (by unfold TG; omega)]; exact e18'
      have go2 : ∀ rr, ur_at ur_G (d + 2) 151 (399, [some (.ref 208), some (.int (nI 0)), none, none, none, none], [], (s, f4, g4, R)) = some rr → mAt s R d 11 0 1 f3 g1 = some rr := fun rr hr => v5 rr (m_noop hM v1' (by decide) hx' rr (m_no304 hM v1' hx' (Or.inr rfl) (by decide) rr hr))
      have z0' : decide (nI 0 ≠ (0 : Int32)) = false := by decide
      show ∃ v f' g', _ ∧ mSZ f' g' q (if kdT q x.1 = 59 then .inr (enT q x.1, z, some (x.2.1, x.2.2.1)) else .inl (1 + 16 * bgT q x.1)) v ∧ _
      by_cases k59 : kdT q x.1 = 59
      · rw [if_pos k59]
        have s59 := sgT (d := d + 1) hM v1'.1 (v := 59) (c := 59) rfl (by decide) (by decide) k59
        obtain ⟨f5, g5, u1, u2, u3, u4⟩ := m_nx (d := d) hM v1'.1
        have c151 := go 1 f5 g5 (go2 _ (e_X10_reads_399 _ _ _ (by simp only [z0', cond_false, s59, Option.bind_some, e10, u1])))
        have e21'' : f5 208 21 = nI (1000 + x.2.2.1.length) := by rw [u3 _ _ (by unfold TF2; omega)]; exact v1'.2.1.1
        have w11 : ur_wI (s, f5, g5, R) (208 + 11) 0 (1 : Int32) (nI (1000 + x.2.2.1.length)) = some (s, ur_u f5 (208 + 11) 1 (nI (1000 + x.2.2.1.length)), g5, R) := hM.w11 (j := 1) (by decide)
        obtain ⟨f6, hf6⟩ : ∃ f6, f6 = ur_u f5 (208 + 11) 1 (nI (1000 + x.2.2.1.length)) := ⟨_, rfl⟩
        rw [← hf6] at w11
        have t6 : eqT (fun a k => a = 219 ∧ k = 1) f5 f6 := by rw [hf6]; exact eqT_u ⟨rfl, rfl⟩
        have s6 : mS f6 g5 q (enT q x.1) := u2.fr t6 (eqL.refl (T := fun _ _ => False)) (fun k _ _ y => by omega) (fun k y => by omega) (fun y => y)
        have l6 : mLn f6 g5 z := (l4.tp u3 u4).fr t6 (eqL.refl (T := fun _ _ => False)) (fun a k h1 h2 y => by omega) (fun a k _ _ y => y)
        have k6 : lawM f6 x.2.2.1 := (v1'.2.1.fr u3 (by unfold TF2; omega) (fun k y => by unfold TF2 at y; omega)).fr t6 (by omega) (fun k y => by omega)
        refine ⟨1, f6, g5, ur_cl hM.rcv rfl (e_X10_readsStays_0 _ _ ?_), ⟨rfl, s6, l6, k6, ?_, ?_⟩, ((tt.trans (v3.mono TG_Mz)).trans (u3.mono TF2_Mz)).trans (t6.mono (fun a k y => by unfold TMz; omega)), (tg.trans (v4.mono GF2_Ma)).trans (u4.mono GF2_Ma)⟩
        · simp only [hM.r19, Option.bind_some, a11, e19, hM.r18, a10, e18, le, cond_true, a1, hM.I, e21', w10, c151, d10, e21'', w11]
        · rw [t6 _ _ (by omega), u3 _ _ (by unfold TF2; omega)]; exact e18''
        · rw [hf6]; exact ur_us
      · rw [if_neg k59]
        have s59 := sgF (d := d + 1) hM v1'.1 (v := 59) (c := 59) rfl (by decide) (by decide) k59
        have fl := m_fl (d := d + 1) hM v1'.1 (k := 1) (v := 1) rfl
        have c151 := go 0 (ur_u f4 208 9 (nI (1 + 16 * bgT q x.1))) g4 (go2 _ (e_X10_reads_399 _ _ _ (by
          simp only [z0', cond_false, s59, Option.bind_some, e00, decide_true, cond_true, fl]
          rfl)))
        refine ⟨0, ur_u f4 208 9 (nI (1 + 16 * bgT q x.1)), g4, ur_cl hM.rcv rfl (e_X10_readsStays_0 _ _ ?_), ⟨rfl, ur_us⟩, (tt.trans (v3.mono TG_Mz)).u (TMa_Mz _ _ (Or.inl ⟨rfl, Or.inl ⟨by decide, by decide⟩⟩)), tg.trans (v4.mono GF2_Ma)⟩
        simp only [hM.r19, Option.bind_some, a11, e19, hM.r18, a10, e18, le, cond_true, a1, hM.I, e21', w10, c151, d00, cond_false]
theorem tk_0 : decide (nI (tkM k) = (0 : Int32)) = decide (k = 1) := by
  rcases isW_d (k := k) with w | w
  · rw [tk_W w, decide_eq_false (show ¬ k = 1 by unfold isW at w; omega)]; rfl
  · rw [tk_nW w]
    cases decide (k = 1) with
    | true => rfl
    | false => cases decide (k = 2) <;> cases decide (k = 0) <;> rfl
/-- one statement -/
theorem m_one (hM : oModel s R 208) (hs : mS f g q i) (h : mZ f g z t) (hz : zW z) (ht : tlW t) (h1 : kdT q i ≠ 1) : ∃ v f' g', mSZ f' g' q (pCz q (pSt q z t i)) v ∧ eqT TMz f f' ∧ eqL GMa g g' ∧ ∀ rr, (bif decide (v ≠ 0) then ur_at ur_G (d + 4) 168 (51, [some (.ref 208), none], [], (s, f', g', R)) else some (0, (s, f', g', R))) = some rr → ur_at ur_G (d + 4) 168 (51, [some (.ref 208), none], [], (s, f, g, R)) = some rr := by
  have k1 : decide (nI (tkM (kdT q i)) = (0 : Int32)) = false := tk_0.trans (decide_eq_false h1)
  have wt : ∀ k x, k < 20 → x = lN (wN 27 (kwl.getD k [])) → ur_call ur_G (d + 4) 146 [.ref 208, .long x] (s, f, g, R) = some (bif decide (kdT q i = 100 + k) then 1 else 0, (s, f, g, R)) := fun k x h1 h2 => by
    by_cases e : kdT q i = 100 + k
    · rw [decide_eq_true e]; exact wdT (d := d + 3) hM hs h1 h2 e
    · rw [decide_eq_false e]; exact wdF (d := d + 3) hM hs h1 h2 e
  have x0 := wt 0 365647 (by decide) (by decide +kernel)
  have x1 := wt 1 309142174 (by decide) (by decide +kernel)
  have x3 := wt 3 90090 (by decide) (by decide +kernel)
  have x4 := wt 4 232608281 (by decide) (by decide +kernel)
  have x7 := wt 7 10492462 (by decide) (by decide +kernel)
  unfold pSt
  by_cases e0 : kdT q i = 100
  · rw [if_pos e0]
    rw [decide_eq_true (show kdT q i = 100 + 0 from e0), cond_true] at x0
    obtain ⟨v, f2, g2, b1, b2, b3, b4⟩ := m_room (d := d) (p := 0) (sil := false) (by decide) hM hs h.1 hz
    refine ⟨v, f2, g2, b2.lift h b3, b3.mono TMa_Mz, b4, fun rr hr => e_X10_readsAll_51 _ _ ?_⟩
    simp only [hM.I, Option.bind_some, hs.tk, k1, cond_false, x0, e10, b1]
    exact hr
  · rw [if_neg e0]
    rw [decide_eq_false (show ¬ kdT q i = 100 + 0 from e0), cond_false] at x0
    by_cases e1 : kdT q i = 101
    · rw [if_pos e1]
      rw [decide_eq_true (show kdT q i = 100 + 1 from e1), cond_true] at x1
      obtain ⟨v, f2, g2, b1, b2, b3, b4⟩ := m_room (d := d) (p := 1) (sil := true) (by decide) hM hs h.1 hz
      refine ⟨v, f2, g2, b2.lift h b3, b3.mono TMa_Mz, b4, fun rr hr => e_X10_readsAll_51 _ _ ?_⟩
      simp only [hM.I, Option.bind_some, hs.tk, k1, cond_false, x0, e00, decide_true, cond_true, x1, e10, b1]
      exact hr
    · rw [if_neg e1]
      rw [decide_eq_false (show ¬ kdT q i = 100 + 1 from e1), cond_false] at x1
      by_cases e3 : kdT q i = 103
      · rw [if_pos e3]
        rw [decide_eq_true (show kdT q i = 100 + 3 from e3), cond_true] at x3
        obtain ⟨v, f2, g2, b1, b2, b3, b4⟩ := m_door (d := d) hM hs h.1 hz
        refine ⟨v, f2, g2, b2.lift h b3, b3.mono TMa_Mz, b4, fun rr hr => e_X10_readsAll_51 _ _ ?_⟩
        simp only [hM.I, Option.bind_some, hs.tk, k1, cond_false, x0, e00, decide_true, cond_true, x1, x3, e10, b1]
        exact hr
      · rw [if_neg e3]
        rw [decide_eq_false (show ¬ kdT q i = 100 + 3 from e3), cond_false] at x3
        by_cases e4 : kdT q i = 104
        · rw [if_pos e4]
          rw [decide_eq_true (show kdT q i = 100 + 4 from e4), cond_true] at x4
          obtain ⟨v, f2, g2, b1, b2, b3, b4⟩ := m_pers (d := d) hM hs h.1 hz
          refine ⟨v, f2, g2, b2.lift h b3, b3.mono TMa_Mz, b4, fun rr hr => e_X10_readsAll_51 _ _ ?_⟩
          simp only [hM.I, Option.bind_some, hs.tk, k1, cond_false, x0, e00, decide_true, cond_true, x1, x3, x4, e10, b1]
          exact hr
        · rw [if_neg e4]
          rw [decide_eq_false (show ¬ kdT q i = 100 + 4 from e4), cond_false] at x4
          by_cases e7 : kdT q i = 107
          · rw [if_pos e7]
            rw [decide_eq_true (show kdT q i = 100 + 7 from e7), cond_true] at x7
            obtain ⟨v, f2, g2, b1, b2, b3, b4⟩ := m_stay (d := d) hM hs h ht
            refine ⟨v, f2, g2, b2, b3, b4, fun rr hr => e_X10_readsAll_51 _ _ ?_⟩
            simp only [hM.I, Option.bind_some, hs.tk, k1, cond_false, x0, e00, decide_true, cond_true, x1, x3, x4, x7, e10, b1]
            exact hr
          · rw [if_neg e7]
            rw [decide_eq_false (show ¬ kdT q i = 100 + 7 from e7), cond_false] at x7
            have fl := m_fl (d := d + 3) hM hs (k := 1) (v := 1) rfl
            refine ⟨0, ur_u f 208 9 (nI (1 + 16 * bgT q i)), g, ⟨rfl, ur_us⟩, eqT_u (TMa_Mz _ _ (Or.inl ⟨rfl, Or.inl ⟨by decide, by decide⟩⟩)), eqL.refl, fun rr hr => e_X10_readsAll_51 _ _ ?_⟩
            simp only [hM.I, Option.bind_some, hs.tk, k1, cond_false, x0, e00, decide_true, cond_true, x1, x3, x4, x7, fl]
            exact hr
theorem m_all (hM : oModel s R 208) : ∀ (n i : Nat) (z : uPL) (t : uTl) (f : Nat → Nat → Int32) (g : Nat → Nat → Int64), q.1 - i < n → mS f g q i → mZ f g z t → zW z → tlW t → ∃ v f' g', ur_at ur_G (d + 4) 168 (51, [some (.ref 208), none], [], (s, f, g, R)) = some (v, (s, f', g', R)) ∧ mAZ f' g' (pAll q n i z t) v ∧ eqT TMz f f' ∧ eqL GMa g g'
  | 0, _, _, _, _, _, hn, _, _, _, _ => absurd hn (Nat.not_lt_zero _)
  | n + 1, i, z, t, f, g, hn, hs, h, hz, ht => by
    have hle := hs.1.2.1
    have hi := hs.le
    show ∃ v f' g', _ ∧ mAZ f' g' (if kdT q i = 1 then .inr (z, t) else uAb (pCz q (pSt q z t i)) (fun x => pAll q n x.1 x.2.1 x.2.2)) v ∧ _
    by_cases h1 : kdT q i = 1
    · rw [if_pos h1]
      refine ⟨1, f, g, e_X10_readsAll_51 _ _ ?_, ⟨rfl, h⟩, eqT.refl, eqL.refl⟩
      simp only [hM.I, Option.bind_some, hs.tk, tk_0, decide_eq_true h1, cond_true]
    · rw [if_neg h1]
      obtain ⟨v, f2, g2, b1, b2, b3, b4⟩ := m_one (d := d) hM hs h hz ht h1
      cases e : pCz q (pSt q z t i) with
      | inl F =>
        rw [e] at b1
        have b1' : v = 0 ∧ f2 208 9 = nI F := b1
        refine ⟨0, f2, g2, b4 _ ?_, ⟨rfl, b1'.2⟩, b2, b3⟩
        rw [b1'.1, d00, cond_false]
      | inr x =>
        rw [e] at b1
        have b1' : v = 1 ∧ mS f2 g2 q x.1 ∧ mZ f2 g2 x.2.1 x.2.2 := b1
        obtain ⟨y, y1, y2, y3⟩ := pCz_ok e
        obtain ⟨o1, o2, o3, o4⟩ := pSt_ok hs.sm hle hi hz ht y1
        have up := (tk_next o2).2.1 (by omega)
        have ul := (tk_next o2).1
        have ex : x.1 = enT q y.1 := by rw [y3]
        have ez : x.2 = y.2 := by rw [y3]
        obtain ⟨w, f4, g4, d1, d2, d3, d4⟩ := m_all hM n x.1 x.2.1 x.2.2 f2 g2 (by omega) b1'.2.1 b1'.2.2 (by rw [ez]; exact o3) (by rw [ez]; exact o4)
        refine ⟨w, f4, g4, b4 _ ?_, d2, b2.trans d3, b3.trans d4⟩
        rw [b1'.1, d10, cond_true]
        exact d1
end URRM

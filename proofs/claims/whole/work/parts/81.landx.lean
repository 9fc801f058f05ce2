/-! THE CLASS READS STATEMENTS -/
def xLn (f : Nat → Nat → Int32) (g : Nat → Nat → Int64) (L : Nat) (z : uPL) (told : Bool) : Prop := (f L 8 = ur_b told ∧ f L 9 = zUn z ∧ f L 10 = nI (zN z) ∧ f L 11 = nI (zD z) ∧ f L 12 = nI (zP z)) ∧ (∀ r, r < zN z → g (L + 1) r = lN (wN 32 (zRn z r)) ∧ f (L + 2) r = nI (zHo z r)) ∧ (∀ r, r < 8 → f (L + 3) r = zDr z r) ∧ (∀ p, p < zP z → g (L + 4) p = lN (wN 32 (zPn z p)) ∧ f (L + 5) p = nI (zKi z p) ∧ f (L + 6) p = nI (zAg z p) ∧ f (L + 7) p = nI (zHm z p))
def TLa (L : Nat) : Nat → Nat → Prop := fun a k => (a = 1 ∧ 2 ≤ k ∧ k ≤ 7) ∨ (L ≤ a ∧ a < L + 8)
def GLa (L : Nat) : Nat → Nat → Prop := fun a k => (a = 1 ∧ k = 5) ∨ a = L + 1 ∨ a = L + 4
def cSR (f : Nat → Nat → Int32) (g : Nat → Nat → Int64) (q : Nat × (Nat → Nat)) (L : Nat) (told : Bool) (o : uSR) (v : Int32) : Prop := match o with
  | .inl F => v = 0 ∧ f 1 7 = nI F
  | .inr x => v = 1 ∧ cS f g q x.1 ∧ xLn f g L x.2 told
section URLX
variable {s : List (Nat ⊕ (Nat × Nat))} {f f' f1 f2 : Nat → Nat → Int32} {g g' : Nat → Nat → Int64} {R : Nat → Nat → Option Nat} {d i k L lo hi : Nat} {q : Nat × (Nat → Nat)} {z : uPL} {told : Bool} {ws : List Nat} {T T' : Nat → Nat → Prop}
theorem xLn.fr (h : xLn f g L z told) (t : eqT T f f') (t' : eqL T' g g') (h1 : ∀ a k, L ≤ a → a < L + 8 → ¬ T a k) (h2 : ∀ a k, L ≤ a → a < L + 8 → ¬ T' a k) : xLn f' g' L z told := by
  obtain ⟨⟨a1, a2, a3, a4, a5⟩, b1, b2, b3⟩ := h
  refine ⟨⟨by rw [t _ _ (h1 _ _ (by omega) (by omega)), a1], by rw [t _ _ (h1 _ _ (by omega) (by omega)), a2], by rw [t _ _ (h1 _ _ (by omega) (by omega)), a3], by rw [t _ _ (h1 _ _ (by omega) (by omega)), a4], by rw [t _ _ (h1 _ _ (by omega) (by omega)), a5]⟩, fun r hr => ?_, fun r hr => by rw [t _ _ (h1 _ _ (by omega) (by omega)), b2 r hr], fun p hp => ?_⟩
  · rw [t' _ _ (h2 _ _ (by omega) (by omega)), t _ _ (h1 _ _ (by omega) (by omega))]; exact b1 r hr
  · rw [t' _ _ (h2 _ _ (by omega) (by omega)), t _ _ (h1 _ _ (by omega) (by omega)), t _ _ (h1 _ _ (by omega) (by omega)), t _ _ (h1 _ _ (by omega) (by omega))]; exact b3 p hp
theorem xLn.tp (h : xLn f g L z told) (hL : 3 ≤ L) (t : eqT TF1 f f') (t' : eqL GF1 g g') : xLn f' g' L z told := h.fr t t' (fun a k h1 h2 z => by unfold TF1 at z; omega) (fun a k h1 h2 z => by unfold GF1 at z; omega)
theorem TF1_La : ∀ a k, TF1 a k → TLa L a k := fun a k z => Or.inl z
theorem GF1_La : ∀ a k, GF1 a k → GLa L a k := fun a k z => Or.inl z
theorem x_rNamed (hL : oLand s R L) (h : xLn f g L z told) (hz : zW z) (hw : okW ws) : ur_call ur_G (d + 1) 9 [.ref L, .long (lN (wN 32 ws))] (s, f, g, R) = some (knR z ws, (s, f, g, R)) := by
  have h8 := hz.1.1
  have key : ∀ n r, n + r = zN z → ur_at ur_G d 9 (2, [some (.ref L), some (.long (lN (wN 32 ws))), none, some (.int (nI r))], [], (s, f, g, R)) = some (fsP (fun r => decide (zRn z r = ws)) n r, (s, f, g, R)) := by
    intro n
    induction n with
    | zero =>
      intro r hr
      have : r = zN z := by omega
      subst this
      refine e_X1_roomNamed_2 _ _ _ _ ?_
      simp only [hL.I, Option.bind_some, h.1.2.2.1, d_le (show zN z < 2 ^ 31 by omega) (show zN z < 2 ^ 31 by omega), Nat.le_refl, decide_true, cond_true]
      rfl
    | succ n ih =>
      intro r hr
      refine e_X1_roomNamed_2 _ _ _ _ ?_
      show _ = some (bif decide (zRn z r = ws) then nI r else fsP (fun r => decide (zRn z r = ws)) n (r + 1), (s, f, g, R))
      simp only [hL.I, Option.bind_some, h.1.2.2.1, d_le (show zN z < 2 ^ 31 by omega) (show r < 2 ^ 31 by omega), decide_eq_false (show ¬ zN z ≤ r by omega), cond_false, hL.r0, hL.a1 (show r < 8 by omega), (h.2.1 r (by omega)).1, lg_0, w_eq (show 27 ≤ 32 by decide) (Nat.le_refl 32) (hz.2.1 r (by omega)).1 hw, nI_1]
      cases decide (zRn z r = ws) with
      | true => rfl
      | false => exact ih (r + 1) (by omega)
  exact ur_cl hL.rcv rfl (e_X1_roomNamed_0 _ _ _ (key (zN z) 0 rfl))
theorem x_pNamed (hL : oLand s R L) (h : xLn f g L z told) (hz : zW z) (hw : okW ws) : ur_call ur_G (d + 1) 10 [.ref L, .long (lN (wN 32 ws))] (s, f, g, R) = some (knP z ws, (s, f, g, R)) := by
  have h5 := hz.1.2.1
  have key : ∀ n r, n + r = zP z → ur_at ur_G d 10 (2, [some (.ref L), some (.long (lN (wN 32 ws))), none, some (.int (nI r))], [], (s, f, g, R)) = some (fsP (fun r => decide (zPn z r = ws)) n r, (s, f, g, R)) := by
    intro n
    induction n with
    | zero =>
      intro r hr
      have : r = zP z := by omega
      subst this
      refine e_X1_personNamed_2 _ _ _ _ ?_
      simp only [hL.I, Option.bind_some, h.1.2.2.2.2, d_le (show zP z < 2 ^ 31 by omega) (show zP z < 2 ^ 31 by omega), Nat.le_refl, decide_true, cond_true]
      rfl
    | succ n ih =>
      intro r hr
      refine e_X1_personNamed_2 _ _ _ _ ?_
      show _ = some (bif decide (zPn z r = ws) then nI r else fsP (fun r => decide (zPn z r = ws)) n (r + 1), (s, f, g, R))
      simp only [hL.I, Option.bind_some, h.1.2.2.2.2, d_le (show zP z < 2 ^ 31 by omega) (show r < 2 ^ 31 by omega), decide_eq_false (show ¬ zP z ≤ r by omega), cond_false, hL.r3, hL.a4 (show r < 5 by omega), (h.2.2.2 r (by omega)).1, lg_0, w_eq (show 27 ≤ 32 by decide) (Nat.le_refl 32) (hz.2.2.1 r (by omega)).1 hw, nI_1]
      cases decide (zPn z r = ws) with
      | true => rfl
      | false => exact ih (r + 1) (by omega)
  exact ur_cl hL.rcv rfl (e_X1_personNamed_0 _ _ _ (key (zP z) 0 rfl))
theorem x_new (hO : oTape s R 1) (hS : s.length ≤ 1000) (hL : oLand s R L) (hL3 : 3 ≤ L) (hc : cS f g q i) (h : xLn f g L z told) (hz : zW z) : (pNew q z i ≠ 0 → ur_call ur_G (d + 9) 14 [.ref L, .ref 1] (s, f, g, R) = some (0, (s, ur_u f 1 7 (nI (pNew q z i)), g, R))) ∧ (pNew q z i = 0 → ∃ f' g', ur_call ur_G (d + 9) 14 [.ref L, .ref 1] (s, f, g, R) = some (1, (s, f', g', R)) ∧ cS f' g' q (enT q i) ∧ xLn f' g' L z told ∧ eqT TF1 f f' ∧ eqL GF1 g g' ∧ kdT q i = 3) := by
  have hkl := hc.kl
  have dk3 : decide (nI (kdT q i) = (3 : Int32)) = decide (kdT q i = 3) := d_eq (b := 3) (by omega) (by decide)
  have f1 := x_fl (d := d + 7) hO hc (k := 1) (v := 1) rfl
  have f3 := x_fl (d := d + 7) hO hc (k := 3) (v := 3) rfl
  by_cases k3 : kdT q i = 3
  · have hw : isW (kdT q i) := Or.inl k3
    obtain ⟨w1, -⟩ := tk_w hc.le hw
    have n9 := x_rNamed (d := d + 7) hL h hz w1
    have n10 := x_pNamed (d := d + 7) hL h hz w1
    have e3 : decide (nI (kdT q i) = (3 : Int32)) = true := dk3.trans (decide_eq_true k3)
    by_cases r1 : knR z (wlT q i) = -1
    · by_cases p1 : knP z (wlT q i) = -1
      · have e : pNew q z i = 0 := by
          unfold pNew
          rw [if_neg (fun z => z k3), if_neg (fun z => z r1), if_neg (fun z => z p1)]
        refine ⟨fun z => absurd e z, fun _ => ?_⟩
        obtain ⟨fa, ga, v1, v2, v3, v4⟩ := x_adv (d := d) hO hS hc
        refine ⟨fa, ga, ur_cl hL.rcv rfl (e_X1_takeNewName_0 _ _ _ ?_), v2, h.tp hL3 v3 v4, v3, v4, k3⟩
        simp only [hO.I, hO.L, Option.bind_some, hc.kd, e3, cond_true, hc.w hw, n9, r1, show decide ((-1 : Int32) ≠ -1) = false from by decide, cond_false, n10, p1, show decide ((-1 : Int32) = -1) = true from by decide, v1]
        rfl
      · have e : pNew q z i = 3 + 16 * bgT q i := by
          unfold pNew
          rw [if_neg (fun z => z k3), if_neg (fun z => z r1), if_pos p1]
        refine ⟨fun _ => ?_, fun z => absurd z (by omega)⟩
        refine ur_cl hL.rcv rfl (e_X1_takeNewName_0 _ _ _ ?_)
        simp only [hO.I, hO.L, Option.bind_some, hc.kd, e3, cond_true, hc.w hw, n9, r1, show decide ((-1 : Int32) ≠ -1) = false from by decide, cond_false, n10, decide_eq_false p1, f3, e]
        rfl
    · have e : pNew q z i = 3 + 16 * bgT q i := by
        unfold pNew
        rw [if_neg (fun z => z k3), if_pos r1]
      refine ⟨fun _ => ?_, fun z => absurd z (by omega)⟩
      refine ur_cl hL.rcv rfl (e_X1_takeNewName_0 _ _ _ ?_)
      simp only [hO.I, hO.L, Option.bind_some, hc.kd, e3, cond_true, hc.w hw, n9, decide_eq_true (show knR z (wlT q i) ≠ -1 from r1), f3, e]
      rfl
  · have e : pNew q z i = 1 + 16 * bgT q i := by
      unfold pNew
      rw [if_pos k3]
    refine ⟨fun _ => ?_, fun z => absurd z (by omega)⟩
    refine ur_cl hL.rcv rfl (e_X1_takeNewName_0 _ _ _ ?_)
    simp only [hO.I, Option.bind_some, hc.kd, dk3, decide_eq_false k3, cond_false, f1, e]
    rfl
theorem x_rnm (hO : oTape s R 1) (hL : oLand s R L) (hc : cS f g q i) (h : xLn f g L z told) (hz : zW z) : (pRnm q z i ≠ 0 → ur_call ur_G (d + 3) 15 [.ref L, .ref 1] (s, f, g, R) = some (0, (s, ur_u f 1 7 (nI (pRnm q z i)), g, R))) ∧ (pRnm q z i = 0 → ur_call ur_G (d + 3) 15 [.ref L, .ref 1] (s, f, g, R) = some (1, (s, f, g, R)) ∧ kdT q i = 3 ∧ ∃ k, k < zN z ∧ knR z (wlT q i) = nI k ∧ ix (knR z (wlT q i)) = k ∧ ∀ d, ur_call ur_G (d + 1) 9 [.ref L, .long (lN (wN 32 (wlT q i)))] (s, f, g, R) = some (nI k, (s, f, g, R))) := by
  have hkl := hc.kl
  have h8 := hz.1.1
  have dk3 : decide (nI (kdT q i) = (3 : Int32)) = decide (kdT q i = 3) := d_eq (b := 3) (by omega) (by decide)
  have f1 := x_fl (d := d + 1) hO hc (k := 1) (v := 1) rfl
  have f2 := x_fl (d := d + 1) hO hc (k := 2) (v := 2) rfl
  by_cases k3 : kdT q i = 3
  · have hw : isW (kdT q i) := Or.inl k3
    obtain ⟨w1, -⟩ := tk_w hc.le hw
    have n9 := x_rNamed (d := d + 1) hL h hz w1
    have e3 : decide (nI (kdT q i) = (3 : Int32)) = true := dk3.trans (decide_eq_true k3)
    by_cases r1 : knR z (wlT q i) = -1
    · have e : pRnm q z i = 2 + 16 * bgT q i := by
        unfold pRnm
        rw [if_neg (fun z => z k3), if_pos r1]
      refine ⟨fun _ => ?_, fun z => absurd z (by omega)⟩
      refine ur_cl hL.rcv rfl (e_X1_isRoomName_0 _ _ _ ?_)
      simp only [hO.I, hO.L, Option.bind_some, hc.kd, e3, cond_true, hc.w hw, n9, r1, show decide ((-1 : Int32) ≠ -1) = false from by decide, cond_false, f2, e, e00]
      rfl
    · have e : pRnm q z i = 0 := by
        unfold pRnm
        rw [if_neg (fun z => z k3), if_neg r1]
      refine ⟨fun z => absurd e z, fun _ => ⟨?_, k3, ?_⟩⟩
      · refine ur_cl hL.rcv rfl (e_X1_isRoomName_0 _ _ _ ?_)
        simp only [hO.I, hO.L, Option.bind_some, hc.kd, e3, cond_true, hc.w hw, n9, decide_eq_true (show knR z (wlT q i) ≠ -1 from r1)]
      · rcases knR_is (z := z) (ws := wlT q i) h8 with q1 | ⟨k, q1, q2, q3⟩
        · exact absurd q1 r1
        · refine ⟨k, q1, q2, q3, fun d => ?_⟩
          rw [x_rNamed hL h hz w1, q2]
  · have e : pRnm q z i = 1 + 16 * bgT q i := by
      unfold pRnm
      rw [if_pos k3]
    refine ⟨fun _ => ?_, fun z => absurd z (by omega)⟩
    refine ur_cl hL.rcv rfl (e_X1_isRoomName_0 _ _ _ ?_)
    simp only [hO.I, Option.bind_some, hc.kd, dk3, decide_eq_false k3, cond_false, f1, e]
    rfl
theorem x_num (hO : oTape s R 1) (hc : cS f g q i) {v v' : Int32} (hv : v = nI lo) (hv' : v' = nI hi) (hlo : lo < 2 ^ 31) (hhi : hi < 2 ^ 31) : (pNum q lo hi i ≠ 0 → ur_call ur_G (d + 2) 79 [.ref 1, .int v, .int v'] (s, f, g, R) = some (0, (s, ur_u f 1 7 (nI (pNum q lo hi i)), g, R))) ∧ (pNum q lo hi i = 0 → ur_call ur_G (d + 2) 79 [.ref 1, .int v, .int v'] (s, f, g, R) = some (1, (s, f, g, R)) ∧ kdT q i = 2 ∧ lo ≤ nmT q i ∧ nmT q i ≤ hi) := by
  by_cases k2 : kdT q i = 2
  · have c := x_isNum (d := d) hO hc hv hv' hlo hhi k2
    by_cases hr : lo ≤ nmT q i ∧ nmT q i ≤ hi
    · have e : pNum q lo hi i = 0 := by
        unfold pNum
        rw [if_neg (fun z => z k2), if_pos hr]
      rw [decide_eq_true hr.1, decide_eq_true hr.2] at c
      exact ⟨fun z => absurd e z, fun _ => ⟨c, k2, hr⟩⟩
    · have e : pNum q lo hi i = 4 + 16 * bgT q i := by
        unfold pNum
        rw [if_neg (fun z => z k2), if_neg hr]
      have ef : (decide (lo ≤ nmT q i) && decide (nmT q i ≤ hi)) = false := by
        by_cases h1 : lo ≤ nmT q i
        · rw [decide_eq_false (show ¬ nmT q i ≤ hi from fun h2 => hr ⟨h1, h2⟩), Bool.and_false]
        · rw [decide_eq_false h1, Bool.false_and]
      rw [ef, cond_false] at c
      refine ⟨fun _ => by rw [c, e], fun z => absurd z (by omega)⟩
  · have e : pNum q lo hi i = 1 + 16 * bgT q i := by
      unfold pNum
      rw [if_pos k2]
    refine ⟨fun _ => by rw [x_isNum_k hO hc k2, e], fun z => absurd z (by omega)⟩
theorem zUn_R {h : Nat} : zUn (addR z ws h) = zUn z ||| (bif decide (0 < h) then bit1 (zN z) else 0) := by
  show sB (fun r => decide (0 < upA (zHo z) (zN z) h r)) (zN z) ||| (bif decide (0 < upA (zHo z) (zN z) h (zN z)) then (1 : Int32) <<< (nI (zN z) &&& 31) else 0) = _
  rw [upA_s, sB_congr (Q := fun r => decide (0 < zHo z r)) (fun r hr => by rw [upA_n (by omega)])]
  rfl
/-- a room laid down -/
theorem x_addR {h : Nat} (hL : oLand s R L) (hL3 : 3 ≤ L) (hc : cS f g q i) (hx : xLn f g L z told) (hz : zW z) (hN : zN z < 8) (hw : okW ws) (hu : f1 = bif decide (0 < h) then ur_u f L 9 (zUn z ||| bit1 (zN z)) else f) : ∃ f' g', ur_at ur_G d 13 (87, [some (.ref L), none, none, some (.long (lN (wN 32 ws))), none, some (.int (nI h))], [], (s, f1, g, R)) = some (1, (s, f', g', R)) ∧ cS f' g' q i ∧ xLn f' g' L (addR z ws h) told ∧ eqT (TLa L) f f' ∧ eqL (GLa L) g g' := by
  obtain ⟨⟨a1, a2, a3, a4, a5⟩, b1, b2, b3⟩ := hx
  have u : ∀ a k, ¬ (a = L ∧ k = 9) → f1 a k = f a k := fun a k hn => by
    rw [hu]
    cases decide (0 < h) with
    | false => rfl
    | true =>
      show ur_u f L 9 _ a k = f a k
      by_cases e : a = L
      · subst e
        rw [ur_un (fun z => hn ⟨rfl, z⟩)]
      · rw [ur_ua e]
  have u9 : f1 L 9 = zUn (addR z ws h) := by
    rw [zUn_R, hu]
    cases decide (0 < h) with
    | false => show f L 9 = _ ||| 0; rw [a2, i_or0]
    | true => show ur_u f L 9 _ L 9 = _; rw [ur_us]; rfl
  have e10 : f1 L 10 = nI (zN z) := by rw [u _ _ (by omega), a3]
  obtain ⟨f2, hf2⟩ : ∃ f2, f2 = ur_u (ur_u f1 (L + 2) (zN z) (nI h)) L 10 (nI (zN z + 1)) := ⟨_, rfl⟩
  have t2 : eqT (fun a k => (a = L ∧ (k = 9 ∨ k = 10)) ∨ (a = L + 2 ∧ k = zN z)) f f2 := fun a k hn => by
    rw [hf2]
    by_cases e : a = L
    · subst e
      rw [ur_un (by omega), ur_ua (by omega), u _ _ (by omega)]
    · rw [ur_ua e]
      by_cases e2 : a = L + 2
      · subst e2
        rw [ur_un (by omega), u _ _ (by omega)]
      · rw [ur_ua e2, u _ _ (by omega)]
  have tg : eqL (fun a k => a = L + 1 ∧ k = zN z) g (ur_u g (L + 1) (zN z) (lN (wN 32 ws))) := eqL_u ⟨rfl, rfl⟩
  refine ⟨f2, ur_u g (L + 1) (zN z) (lN (wN 32 ws)), e_X1_readRoom_87 _ _ _ _ ?_, hc.fr t2 tg (fun k h1 h2 z => by omega) (fun k z => by omega) (by omega), ⟨⟨?_, ?_, ?_, ?_, ?_⟩, fun r hr => ?_, fun r hr => ?_, fun p hp => ?_⟩, t2.mono (fun a k z => by unfold TLa; omega), tg.mono (fun a k z => by unfold GLa; omega)⟩
  · have w1 : ur_wL (s, f1, g, R) (L + 1) (nI (zN z)) (lN (wN 32 ws)) = some (s, f1, ur_u g (L + 1) (zN z) (lN (wN 32 ws)), R) := hL.w1 hN
    have e10' : ur_u f1 (L + 2) (zN z) (nI h) L 10 = nI (zN z) := by rw [ur_ua (by omega), e10]
    simp only [hL.r0, hL.r1, hL.I, hL.pI, Option.bind_some, e10, w1, hL.w2 hN, e10', nI_1, ← hf2]
  · rw [t2 _ _ (by omega), a1]
  · rw [hf2, ur_un (by decide), ur_ua (by omega), u9]
  · rw [hf2, ur_us]; rfl
  · rw [t2 _ _ (by omega), a4]; rfl
  · rw [t2 _ _ (by omega), a5]; rfl
  · have hr' : r < zN z + 1 := hr
    show _ = lN (wN 32 (upA (zRn z) (zN z) ws r)) ∧ _ = nI (upA (zHo z) (zN z) h r)
    by_cases e : r = zN z
    · rw [e, upA_s, upA_s, ur_usg, hf2, ur_ua (by omega), ur_us]
      exact ⟨rfl, rfl⟩
    · rw [upA_n e, upA_n e, tg _ _ (by omega), t2 _ _ (by omega)]
      exact b1 r (by omega)
  · rw [t2 _ _ (by omega)]
    exact b2 r hr
  · rw [tg _ _ (by omega), t2 _ _ (by omega), t2 _ _ (by omega), t2 _ _ (by omega)]
    exact b3 p hp
theorem x_room {sil : Bool} (hO : oTape s R 1) (hS : s.length ≤ 1000) (hL : oLand s R L) (hL3 : 3 ≤ L) (hc : cS f g q i) (h : xLn f g L z told) (hz : zW z) : ∃ v f' g', ur_call ur_G (d + 10) 13 [.ref L, .ref 1, .int (ur_b sil)] (s, f, g, R) = some (v, (s, f', g', R)) ∧ cSR f' g' q L told (pRoom q z sil i) v ∧ eqT (TLa L) f f' ∧ eqL (GLa L) g g' := by
  have h8 := hz.1.1
  have d8 : decide (nI (zN z) < (8 : Int32)) = decide (zN z < 8) := d_lt (b := 8) (by omega) (by decide)
  unfold pRoom
  by_cases hN : 8 ≤ zN z
  · rw [if_pos hN]
    have fl := x_fl (d := d + 8) hO hc (k := 5) (v := 5) rfl
    refine ⟨0, _, g, ur_cl hL.rcv rfl (e_X1_readRoom_0 _ _ _ _ ?_), ⟨rfl, ur_us⟩, eqT_u (Or.inl ⟨rfl, by decide, by decide⟩), eqL.refl⟩
    simp only [hL.I, Option.bind_some, h.1.2.2.1, d8, decide_eq_false (show ¬ zN z < 8 by omega), cond_false, fl]
    rfl
  · rw [if_neg hN]
    obtain ⟨f1, g1, a1, a2, a3, a4⟩ := x_adv (d := d + 1) hO hS hc
    have x1 := h.tp hL3 a3 a4
    obtain ⟨b1, b2⟩ := x_new (d := d) hO hS hL hL3 a2 x1 hz
    by_cases e0 : pNew q z (enT q i) = 0
    · rw [if_neg (fun z => z e0)]
      obtain ⟨f2, g2, c1, c2, c3, c4, c5, k3⟩ := b2 e0
      have hwk : isW (kdT q (enT q i)) := Or.inl k3
      have ok := (tk_w a2.le hwk).1
      have gw := a2.w hwk
      have t2 : eqT (TLa L) f f2 := (a3.mono TF1_La).trans (c4.mono TF1_La)
      have u2 : eqL (GLa L) g g2 := (a4.mono GF1_La).trans (c5.mono GF1_La)
      have head : ∀ rr, (bif decide (ur_b sil = 0) then ur_at ur_G (d + 9) 13 (87, [some (.ref L), none, none, some (.long (lN (wN 32 (wlT q (enT q i))))), none, some (.int 0)], [], (s, f2, g2, R)) else ((ur_call ur_G (d + 9) 78 [.ref 1, .int (102 : Int32)] (s, f2, g2, R)).bind fun q5 => (bif decide (q5.1 = 0) then some ((0 : Int32), q5.2) else ((ur_call ur_G (d + 9) 79 [.ref 1, .int (1 : Int32), .int (20 : Int32)] q5.2).bind fun q6 => (bif decide (q6.1 ≠ 0) then ((ur_fI q6.2 1 8 6).bind fun v7 => ((ur_call ur_G (d + 9) 74 [.ref 1] q6.2).bind fun q8 => ((ur_fI q8.2 L 1 9).bind fun v9 => ((ur_fI q8.2 L 1 10).bind fun v10 => ((ur_pI q8.2 L 1 9 (v9 ||| ((1 : Int32) <<< (v10 &&& 31)))).bind fun m11 => ur_at ur_G (d + 9) 13 (87, [some (.ref L), none, none, some (.long (lN (wN 32 (wlT q (enT q i))))), none, some (.int v7)], [], m11)))))) else some ((0 : Int32), q6.2)))))) = some rr → ur_call ur_G (d + 10) 13 [.ref L, .ref 1, .int (ur_b sil)] (s, f, g, R) = some rr := fun rr hr => by
        refine ur_cl hL.rcv rfl (e_X1_readRoom_0 _ _ _ _ ?_)
        simp only [hL.I, Option.bind_some, h.1.2.2.1, d8, decide_eq_true (show zN z < 8 by omega), cond_true, a1, hO.L, gw, c1, d10]
        exact hr
      cases sil with
      | false =>
        rw [if_pos rfl]
        obtain ⟨f3, g3, p1, p2, p3, p4, p5⟩ := x_addR (d := d + 9) (h := 0) (f1 := f2) hL hL3 c2 c3 hz (by omega) ok rfl
        refine ⟨1, f3, g3, head _ ?_, ⟨rfl, p2, p3⟩, t2.trans p4, u2.trans p5⟩
        rw [show decide (ur_b false = 0) = true from by decide, cond_true]
        exact p1
      | true =>
        rw [if_neg (by decide)]
        have n0 : decide (ur_b true = 0) = false := by decide
        by_cases k102 : kdT q (enT q (enT q i)) = 102
        · rw [if_neg (fun z => z k102)]
          obtain ⟨f3, g3, v1, v2, v3, v4⟩ := x_take_y (d := d) hO hS c2 (v := 102) (c := 102) rfl k102
          have x3 := c3.tp hL3 v3 v4
          have t3 : eqT (TLa L) f f3 := t2.trans (v3.mono TF1_La)
          have u3 : eqL (GLa L) g g3 := u2.trans (v4.mono GF1_La)
          obtain ⟨n1, n2⟩ := x_num (d := d + 7) (s := s) (R := R) hO v2 (v := 1) (v' := 20) (lo := 1) (hi := 20) rfl rfl (by decide) (by decide)
          by_cases en : pNum q 1 20 (enT q (enT q (enT q i))) = 0
          · rw [if_neg (fun z => z en)]
            obtain ⟨m1, m2, m3, m4⟩ := n2 en
            obtain ⟨f4, g4, w1, w2, w3, w4⟩ := x_adv (d := d + 1) hO hS v2
            have x4 := x3.tp hL3 w3 w4
            have e6 : f3 1 6 = nI (nmT q (enT q (enT q (enT q i)))) := v2.nu m2
            obtain ⟨f5, hf5⟩ : ∃ f5, f5 = ur_u f4 L 9 (zUn z ||| bit1 (zN z)) := ⟨_, rfl⟩
            obtain ⟨f6, g6, p1, p2, p3, p4, p5⟩ := x_addR (d := d + 9) (h := nmT q (enT q (enT q (enT q i)))) (f1 := f5) (ws := wlT q (enT q i)) hL hL3 w2 x4 hz (by omega) ok (by rw [decide_eq_true (show 0 < nmT q (enT q (enT q (enT q i))) by omega), hf5]; rfl)
            refine ⟨1, f6, g6, head _ ?_, ⟨rfl, p2, p3⟩, (t3.trans (w3.mono TF1_La)).trans p4, (u3.trans (w4.mono GF1_La)).trans p5⟩
            rw [n0, cond_false]
            simp only [v1, Option.bind_some, e10, cond_false, m1, d10, cond_true, hO.I, e6, w1, hL.I, hL.pI, x4.1.2.1, x4.1.2.2.1, show (1 : Int32) <<< (nI (zN z) &&& 31) = bit1 (zN z) from rfl, ← hf5]
            exact p1
          · rw [if_pos en]
            refine ⟨0, _, g3, head _ ?_, ⟨rfl, ur_us⟩, t3.u (Or.inl ⟨rfl, by decide, by decide⟩), u3⟩
            rw [n0, cond_false]
            simp only [v1, Option.bind_some, e10, cond_false, n1 en, d00]
        · rw [if_pos k102]
          have c := x_take_n (d := d) hO c2 (v := 102) (c := 102) rfl (by decide) k102
          refine ⟨0, _, g2, head _ ?_, ⟨rfl, ur_us⟩, t2.u (Or.inl ⟨rfl, by decide, by decide⟩), u2⟩
          rw [n0, cond_false, c, Option.bind_some]
          rfl
    · rw [if_pos e0]
      refine ⟨0, _, g1, ur_cl hL.rcv rfl (e_X1_readRoom_0 _ _ _ _ ?_), ⟨rfl, ur_us⟩, (a3.mono TF1_La).u (Or.inl ⟨rfl, by decide, by decide⟩), a4.mono GF1_La⟩
      simp only [hL.I, Option.bind_some, h.1.2.2.1, d8, decide_eq_true (show zN z < 8 by omega), cond_true, a1, hO.L, b1 e0, d00, cond_false]
end URLX

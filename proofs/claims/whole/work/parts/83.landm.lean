/-! THE REFERENCE READS STATEMENTS -/
def mLn (f : Nat → Nat → Int32) (g : Nat → Nat → Int64) (z : uPL) : Prop := (f 210 3 = nI (zN z) ∧ f 210 4 = nI (zD z) ∧ f 210 5 = nI (zP z)) ∧ (∀ r, r < zN z → g 211 (8 + r) = lN (wN 27 (zRn z r)) ∧ f 212 (8 + r) = nI (zHo z r) ∧ f 213 (8 + r) = zDr z r) ∧ (∀ p, p < zP z → g 214 (5 + p) = lN (wN 27 (zPn z p)) ∧ f 215 (5 + p) = nI (zKi z p) ∧ f 216 (5 + p) = nI (zAg z p) ∧ f 217 (5 + p) = nI (zHm z p))
def TMa : Nat → Nat → Prop := fun a k => (a = 208 ∧ ((4 ≤ k ∧ k ≤ 9) ∨ k = 34)) ∨ (a = 210 ∧ 3 ≤ k) ∨ ((a = 212 ∨ a = 213) ∧ 8 ≤ k) ∨ ((a = 215 ∨ a = 216 ∨ a = 217) ∧ 5 ≤ k)
def GMa : Nat → Nat → Prop := fun a k => (a = 208 ∧ (k = 7 ∨ k = 35)) ∨ (a = 211 ∧ 8 ≤ k) ∨ (a = 214 ∧ 5 ≤ k)
def pCl (q : Nat × (Nat → Nat)) (o : uSR) : uSR := match o with
  | .inl F => .inl F
  | .inr x => if kdT q x.1 = 59 then .inr (enT q x.1, x.2) else .inl (1 + 16 * bgT q x.1)
def mSR (f : Nat → Nat → Int32) (g : Nat → Nat → Int64) (q : Nat × (Nat → Nat)) (o : uSR) (v : Int32) : Prop := match o with
  | .inl F => v = 0 ∧ f 208 9 = nI F
  | .inr x => v = 1 ∧ mS f g q x.1 ∧ mLn f g x.2
section URLM
variable {s : List (Nat ⊕ (Nat × Nat))} {f f' f1 f2 : Nat → Nat → Int32} {g g' : Nat → Nat → Int64} {R : Nat → Nat → Option Nat} {d i k lo hi ro N : Nat} {q : Nat × (Nat → Nat)} {z : uPL} {ws : List Nat} {rn : Nat → List Nat} {T T' : Nat → Nat → Prop}
theorem TRn_Ma : ∀ a k, (a = 208 ∧ (k = 9 ∨ k = 34)) → TMa a k := fun a k z => by unfold TMa; omega
theorem TF2_Ma : ∀ a k, TF2 a k → TMa a k := fun a k z => by unfold TF2 at z; unfold TMa; omega
theorem GF2_Ma : ∀ a k, GF2 a k → GMa a k := fun a k z => by unfold GF2 at z; unfold GMa; omega
theorem mLn.fr (h : mLn f g z) (t : eqT T f f') (t' : eqL T' g g') (h1 : ∀ a k, 209 < a → a < 218 → ¬ T a k) (h2 : ∀ a k, 209 < a → a < 218 → ¬ T' a k) : mLn f' g' z := by
  obtain ⟨⟨a1, a2, a3⟩, b1, b2⟩ := h
  refine ⟨⟨by rw [t _ _ (h1 _ _ (by decide) (by decide)), a1], by rw [t _ _ (h1 _ _ (by decide) (by decide)), a2], by rw [t _ _ (h1 _ _ (by decide) (by decide)), a3]⟩, fun r hr => ?_, fun p hp => ?_⟩
  · rw [t' _ _ (h2 _ _ (by decide) (by decide)), t _ _ (h1 _ _ (by decide) (by decide)), t _ _ (h1 _ _ (by decide) (by decide))]; exact b1 r hr
  · rw [t' _ _ (h2 _ _ (by decide) (by decide)), t _ _ (h1 _ _ (by decide) (by decide)), t _ _ (h1 _ _ (by decide) (by decide)), t _ _ (h1 _ _ (by decide) (by decide))]; exact b2 p hp
theorem mLn.tp (h : mLn f g z) (t : eqT TF2 f f') (t' : eqL GF2 g g') : mLn f' g' z := h.fr t t' (fun a k h1 h2 z => by unfold TF2 at z; omega) (fun a k h1 h2 z => by unfold GF2 at z; omega)
theorem m_rNamed (hM : oModel s R 208) (hro : ro ≤ 1) (hN : N ≤ 8) (h0 : f 210 (3 * ro) = nI N) (hn : ∀ r, r < N → g 211 (8 * ro + r) = lN (wN 27 (rn r)) ∧ okW (rn r)) (hg : g 208 7 = lN (wN 27 ws)) (hw : okW ws) {e : Int32} (he : e = nI ro) : ur_call ur_G (d + 1) 157 [.ref 208, .int e] (s, f, g, R) = some (fsP (fun r => decide (rn r = ws)) N 0, (s, f, g, R)) := by
  have e3 : (3 : Int32) * nI ro + 0 = nI (3 * ro) := by rw [show (3 : Int32) = nI 3 from rfl, pk_mul]; exact Int32.add_zero _
  have e8 : (8 : Int32) * nI ro = nI (8 * ro) := by rw [show (8 : Int32) = nI 8 from rfl, pk_mul]
  have a2 : ur_aI (s, f, g, R) (208 + 2) 0 (nI (3 * ro)) = some (f (208 + 2) (3 * ro)) := hM.a2 (by omega)
  have h0' : f (208 + 2) (3 * ro) = nI N := h0
  have key : ∀ n r, n + r = N → ur_at ur_G d 157 (5, [some (.ref 208), some (.int (nI ro)), some (.int (nI (8 * ro + r)))], [], (s, f, g, R)) = some (fsP (fun r => decide (rn r = ws)) n r, (s, f, g, R)) := by
    intro n
    induction n with
    | zero =>
      intro r hr
      have : r = N := by omega
      subst this
      refine e_X10_roomNamed_5 _ _ _ _ ?_
      simp only [hM.r10, Option.bind_some, e3, a2, h0', e8, nI_add, d_le (show 8 * ro + r < 2 ^ 31 by omega) (show 8 * ro + r < 2 ^ 31 by omega), Nat.le_refl, decide_true, cond_true]
      rfl
    | succ n ih =>
      intro r hr
      have a3 : ur_aL (s, f, g, R) (208 + 3) (nI (8 * ro + r)) = some (g (208 + 3) (8 * ro + r)) := hM.a3 (by omega)
      have h3 : g (208 + 3) (8 * ro + r) = lN (wN 27 (rn r)) := (hn r (by omega)).1
      refine e_X10_roomNamed_5 _ _ _ _ ?_
      show _ = some (bif decide (rn r = ws) then nI r else fsP (fun r => decide (rn r = ws)) n (r + 1), (s, f, g, R))
      simp only [hM.r10, hM.r11, hM.L, Option.bind_some, e3, a2, h0', e8, nI_add, d_le (show 8 * ro + N < 2 ^ 31 by omega) (show 8 * ro + r < 2 ^ 31 by omega), decide_eq_false (show ¬ 8 * ro + N ≤ 8 * ro + r by omega), cond_false, a3, h3, hg, lg_0, w_eq (Nat.le_refl 27) (show 27 ≤ 32 by decide) (hn r (by omega)).2 hw, nI_1, pk_sub (show 8 * ro ≤ 8 * ro + r by omega), show 8 * ro + r - 8 * ro = r by omega]
      cases decide (rn r = ws) with
      | true => rfl
      | false => exact ih (r + 1) (by omega)
  rw [he]
  refine ur_cl hM.rcv rfl (e_X10_roomNamed_0 _ _ _ ?_)
  rw [e8]
  exact key N 0 rfl
theorem m_pNamed (hM : oModel s R 208) (hro : ro ≤ 1) (hN : N ≤ 5) (h0 : f 210 (3 * ro + 2) = nI N) (hn : ∀ r, r < N → g 214 (5 * ro + r) = lN (wN 27 (rn r)) ∧ okW (rn r)) (hg : g 208 7 = lN (wN 27 ws)) (hw : okW ws) {e : Int32} (he : e = nI ro) : ur_call ur_G (d + 1) 158 [.ref 208, .int e] (s, f, g, R) = some (fsP (fun r => decide (rn r = ws)) N 0, (s, f, g, R)) := by
  have e3 : (3 : Int32) * nI ro + 2 = nI (3 * ro + 2) := by rw [show (3 : Int32) = nI 3 from rfl, pk_mul, show (2 : Int32) = nI 2 from rfl, nI_add]
  have e8 : (5 : Int32) * nI ro = nI (5 * ro) := by rw [show (5 : Int32) = nI 5 from rfl, pk_mul]
  have a2 : ur_aI (s, f, g, R) (208 + 2) 0 (nI (3 * ro + 2)) = some (f (208 + 2) (3 * ro + 2)) := hM.a2 (by omega)
  have h0' : f (208 + 2) (3 * ro + 2) = nI N := h0
  have key : ∀ n r, n + r = N → ur_at ur_G d 158 (4, [some (.ref 208), some (.int (nI ro)), some (.int (nI (5 * ro + r)))], [], (s, f, g, R)) = some (fsP (fun r => decide (rn r = ws)) n r, (s, f, g, R)) := by
    intro n
    induction n with
    | zero =>
      intro r hr
      have : r = N := by omega
      subst this
      refine e_X10_personNamed_4 _ _ _ _ ?_
      simp only [hM.r10, Option.bind_some, e3, a2, h0', e8, nI_add, d_le (show 5 * ro + r < 2 ^ 31 by omega) (show 5 * ro + r < 2 ^ 31 by omega), Nat.le_refl, decide_true, cond_true]
      rfl
    | succ n ih =>
      intro r hr
      have a3 : ur_aL (s, f, g, R) (208 + 6) (nI (5 * ro + r)) = some (g (208 + 6) (5 * ro + r)) := hM.a6 (by omega)
      have h3 : g (208 + 6) (5 * ro + r) = lN (wN 27 (rn r)) := (hn r (by omega)).1
      refine e_X10_personNamed_4 _ _ _ _ ?_
      show _ = some (bif decide (rn r = ws) then nI r else fsP (fun r => decide (rn r = ws)) n (r + 1), (s, f, g, R))
      simp only [hM.r10, hM.r14, hM.L, Option.bind_some, e3, a2, h0', e8, nI_add, d_le (show 5 * ro + N < 2 ^ 31 by omega) (show 5 * ro + r < 2 ^ 31 by omega), decide_eq_false (show ¬ 5 * ro + N ≤ 5 * ro + r by omega), cond_false, a3, h3, hg, lg_0, w_eq (Nat.le_refl 27) (show 27 ≤ 32 by decide) (hn r (by omega)).2 hw, nI_1, pk_sub (show 5 * ro ≤ 5 * ro + r by omega), show 5 * ro + r - 5 * ro = r by omega]
      cases decide (rn r = ws) with
      | true => rfl
      | false => exact ih (r + 1) (by omega)
  rw [he]
  refine ur_cl hM.rcv rfl (e_X10_personNamed_0 _ _ _ ?_)
  rw [e8]
  exact key N 0 rfl
theorem m_rN1 (hM : oModel s R 208) (h : mLn f g z) (hz : zW z) (hs : mS f g q i) (hk : kdT q i = 3) : ur_call ur_G (d + 1) 157 [.ref 208, .int (1 : Int32)] (s, f, g, R) = some (knR z (wlT q i), (s, f, g, R)) := by
  have hw : isW (kdT q i) := Or.inl hk
  exact m_rNamed (ro := 1) (rn := zRn z) hM (Nat.le_refl 1) hz.1.1 h.1.1 (fun r hr => ⟨(h.2.1 r hr).1, (hz.2.1 r hr).1⟩) (hs.w hw) (tk_w hs.le hw).1 rfl
theorem m_pN1 (hM : oModel s R 208) (h : mLn f g z) (hz : zW z) (hs : mS f g q i) (hk : kdT q i = 3) : ur_call ur_G (d + 1) 158 [.ref 208, .int (1 : Int32)] (s, f, g, R) = some (knP z (wlT q i), (s, f, g, R)) := by
  have hw : isW (kdT q i) := Or.inl hk
  exact m_pNamed (ro := 1) (rn := zPn z) hM (Nat.le_refl 1) hz.1.2.1 h.1.2.2 (fun r hr => ⟨(h.2.2 r hr).1, (hz.2.2.1 r hr).1⟩) (hs.w hw) (tk_w hs.le hw).1 rfl
theorem kn_ge {x : Int32} (h : x = -1 ∨ ∃ k, k < 2 ^ 31 ∧ x = nI k) : decide (0 ≤ x) = decide (x ≠ -1) ∧ decide (x < 0) = decide (x = -1) := by
  rcases h with rfl | ⟨k, hk, rfl⟩
  · exact ⟨by decide, by decide⟩
  · exact ⟨by rw [decide_eq_true (nI_pos' hk), decide_eq_true (nI_ne_m1 hk)], by rw [decide_eq_false (nI_pos hk), decide_eq_false (nI_ne_m1 hk)]⟩
theorem knR_v (hz : zW z) : knR z ws = -1 ∨ ∃ k, k < 2 ^ 31 ∧ knR z ws = nI k := by
  have := hz.1.1
  rcases knR_is (z := z) (ws := ws) this with e | ⟨k, h1, h2, -⟩
  · exact Or.inl e
  · exact Or.inr ⟨k, by omega, h2⟩
theorem knP_v (hz : zW z) : knP z ws = -1 ∨ ∃ k, k < 2 ^ 31 ∧ knP z ws = nI k := by
  have := hz.1.2.1
  rcases fsP_is (Q := fun r => decide (zPn z r = ws)) (zP z) 0 (by omega) with e | ⟨k, h1, h2, h3, h4⟩
  · exact Or.inl e
  · exact Or.inr ⟨k, by omega, h3⟩
theorem m_new (hM : oModel s R 208) (hs : mS f g q i) (h : mLn f g z) (hz : zW z) : (pNew q z i ≠ 0 → ur_call ur_G (d + 3) 161 [.ref 208] (s, f, g, R) = some (0, (s, ur_u f 208 9 (nI (pNew q z i)), g, R))) ∧ (pNew q z i = 0 → ∃ f' g', ur_call ur_G (d + 3) 161 [.ref 208] (s, f, g, R) = some (1, (s, f', g', R)) ∧ mS f' g' q (enT q i) ∧ mLn f' g' z ∧ g' 208 35 = lN (wN 27 (wlT q i)) ∧ eqT TMa f f' ∧ eqL GMa g g' ∧ kdT q i = 3) := by
  have kp := m_isKept (d := d + 1) hM hs
  have f1 := m_fl (d := d + 1) hM hs (k := 1) (v := 1) rfl
  have f3 := m_fl (d := d + 1) hM hs (k := 3) (v := 3) rfl
  by_cases k3 : kdT q i = 3
  · rw [decide_eq_true k3] at kp
    have n1 := m_rN1 (d := d + 1) hM h hz hs k3
    have n2 := m_pN1 (d := d + 1) hM h hz hs k3
    obtain ⟨r1, r2⟩ := kn_ge (knR_v (ws := wlT q i) hz)
    obtain ⟨p1, p2⟩ := kn_ge (knP_v (ws := wlT q i) hz)
    by_cases er : knR z (wlT q i) = -1
    · have r1' : decide (0 ≤ knR z (wlT q i)) = false := r1.trans (decide_eq_false (fun z => z er))
      by_cases ep : knP z (wlT q i) = -1
      · have e : pNew q z i = 0 := by
          unfold pNew
          rw [if_neg (fun z => z k3), if_neg (fun z => z er), if_neg (fun z => z ep)]
        refine ⟨fun z => absurd e z, fun _ => ?_⟩
        have hw : isW (kdT q i) := Or.inl k3
        have tg : eqL (fun a k => a = 208 ∧ k = 35) g (ur_u g 208 35 (g 208 7)) := eqL_u ⟨rfl, rfl⟩
        have hs1 : mS f (ur_u g 208 35 (g 208 7)) q i := hs.fr (eqT.refl (T := fun _ _ => False)) tg (fun k _ _ z => z) (fun k z => z) (by omega)
        have h1 : mLn f (ur_u g 208 35 (g 208 7)) z := h.fr (eqT.refl (T := fun _ _ => False)) tg (fun a k _ _ z => z) (fun a k _ _ z => by omega)
        obtain ⟨fa, ga, v1, v2, v3, v4⟩ := m_nx (d := d) hM hs1
        refine ⟨fa, ga, ur_cl hM.rcv rfl (e_X10_needsNew_0 _ _ ?_), v2, h1.tp v3 v4, by rw [v4 _ _ (by unfold GF2; omega), ur_usg, hs.w hw], v3.mono TF2_Ma, (tg.mono (fun a k z => by unfold GMa; omega)).trans (v4.mono GF2_Ma), k3⟩
        simp only [kp, Option.bind_some, show ur_b (!true) = (0 : Int32) from rfl, e00, decide_true, cond_true, n1, r1', cond_false, n2, p2, decide_eq_true ep, hM.L, hM.pL, v1]
      · have e : pNew q z i = 3 + 16 * bgT q i := by
          unfold pNew
          rw [if_neg (fun z => z k3), if_neg (fun z => z er), if_pos ep]
        refine ⟨fun _ => ?_, fun z => absurd z (by omega)⟩
        refine ur_cl hM.rcv rfl (e_X10_needsNew_0 _ _ ?_)
        simp only [kp, Option.bind_some, show ur_b (!true) = (0 : Int32) from rfl, e00, decide_true, cond_true, n1, r1', cond_false, n2, p2, decide_eq_false ep, f3, e]
        rfl
    · have e : pNew q z i = 3 + 16 * bgT q i := by
        unfold pNew
        rw [if_neg (fun z => z k3), if_pos er]
      refine ⟨fun _ => ?_, fun z => absurd z (by omega)⟩
      refine ur_cl hM.rcv rfl (e_X10_needsNew_0 _ _ ?_)
      simp only [kp, Option.bind_some, show ur_b (!true) = (0 : Int32) from rfl, e00, decide_true, cond_true, n1, r1, decide_eq_true (show knR z (wlT q i) ≠ -1 from er), f3, e]
      rfl
  · rw [decide_eq_false k3] at kp
    have e : pNew q z i = 1 + 16 * bgT q i := by
      unfold pNew
      rw [if_pos k3]
    refine ⟨fun _ => ?_, fun z => absurd z (by omega)⟩
    refine ur_cl hM.rcv rfl (e_X10_needsNew_0 _ _ ?_)
    simp only [kp, Option.bind_some, show ur_b (!false) = (1 : Int32) from rfl, e10, cond_false, f1, e]
    rfl
theorem m_rnm (hM : oModel s R 208) (hs : mS f g q i) (h : mLn f g z) (hz : zW z) : ∃ f', eqT (fun a k => a = 208 ∧ (k = 9 ∨ k = 34)) f f' ∧ mLn f' g z ∧ (pRnm q z i ≠ 0 → ur_call ur_G (d + 2) 162 [.ref 208, .int (1 : Int32)] (s, f, g, R) = some (0, (s, f', g, R)) ∧ f' 208 9 = nI (pRnm q z i)) ∧ (pRnm q z i = 0 → ur_call ur_G (d + 2) 162 [.ref 208, .int (1 : Int32)] (s, f, g, R) = some (1, (s, f', g, R)) ∧ mS f' g q i ∧ kdT q i = 3 ∧ ∃ k, k < zN z ∧ knR z (wlT q i) = nI k ∧ ix (knR z (wlT q i)) = k ∧ f' 208 34 = nI k) := by
  have kp := m_isKept (d := d) hM hs
  have f1 := m_fl (d := d) hM hs (k := 1) (v := 1) rfl
  by_cases k3 : kdT q i = 3
  · rw [decide_eq_true k3] at kp
    have n1 := m_rN1 (d := d) hM h hz hs k3
    obtain ⟨r1, r2⟩ := kn_ge (knR_v (ws := wlT q i) hz)
    have t1 : eqT (fun a k => a = 208 ∧ k = 34) f (ur_u f 208 34 (knR z (wlT q i))) := eqT_u ⟨rfl, rfl⟩
    have hs1 : mS (ur_u f 208 34 (knR z (wlT q i))) g q i := hs.fr t1 (eqL.refl (T := fun _ _ => False)) (fun k z1 z2 z => by omega) (fun k z => by omega) (fun z => z)
    have h1 : mLn (ur_u f 208 34 (knR z (wlT q i))) g z := h.fr t1 (eqL.refl (T := fun _ _ => False)) (fun a k z1 z2 z => by omega) (fun a k _ _ z => z)
    by_cases er : knR z (wlT q i) = -1
    · have e : pRnm q z i = 2 + 16 * bgT q i := by
        unfold pRnm
        rw [if_neg (fun z => z k3), if_pos er]
      have f2 := m_fl (d := d) hM hs1 (k := 2) (v := 2) rfl
      have t2 : eqT (fun a k => a = 208 ∧ k = 9) (ur_u f 208 34 (knR z (wlT q i))) (ur_u (ur_u f 208 34 (knR z (wlT q i))) 208 9 (nI (2 + 16 * bgT q i))) := eqT_u ⟨rfl, rfl⟩
      refine ⟨_, (t1.mono (fun a k z => by omega)).trans (t2.mono (fun a k z => by omega)), h1.fr t2 (eqL.refl (T := fun _ _ => False)) (fun a k z1 z2 z => by omega) (fun a k _ _ z => z), fun _ => ⟨ur_cl hM.rcv rfl (e_X10_needsRoom_0 _ _ _ ?_), by rw [ur_us, e]⟩, fun z => absurd z (by omega)⟩
      simp only [kp, Option.bind_some, show ur_b (!true) = (0 : Int32) from rfl, e00, decide_true, cond_true, n1, hM.pI, hM.I, ur_us, r1, decide_eq_false (show ¬ knR z (wlT q i) ≠ -1 from fun z => z er), cond_false, f2]
    · have e : pRnm q z i = 0 := by
        unfold pRnm
        rw [if_neg (fun z => z k3), if_neg er]
      refine ⟨_, t1.mono (fun a k z => by omega), h1, fun z => absurd e z, fun _ => ⟨ur_cl hM.rcv rfl (e_X10_needsRoom_0 _ _ _ ?_), hs1, k3, ?_⟩⟩
      · simp only [kp, Option.bind_some, show ur_b (!true) = (0 : Int32) from rfl, e00, decide_true, cond_true, n1, hM.pI, hM.I, ur_us, r1, decide_eq_true (show knR z (wlT q i) ≠ -1 from er)]
      · rcases knR_is (z := z) (ws := wlT q i) hz.1.1 with q1 | ⟨k, q1, q2, q3⟩
        · exact absurd q1 er
        · exact ⟨k, q1, q2, q3, by rw [ur_us, q2]⟩
  · rw [decide_eq_false k3] at kp
    have e : pRnm q z i = 1 + 16 * bgT q i := by
      unfold pRnm
      rw [if_pos k3]
    have t2 : eqT (fun a k => a = 208 ∧ k = 9) f (ur_u f 208 9 (nI (1 + 16 * bgT q i))) := eqT_u ⟨rfl, rfl⟩
    refine ⟨_, t2.mono (fun a k z => by omega), h.fr t2 (eqL.refl (T := fun _ _ => False)) (fun a k z1 z2 z => by omega) (fun a k _ _ z => z), fun _ => ⟨ur_cl hM.rcv rfl (e_X10_needsRoom_0 _ _ _ ?_), by rw [ur_us, e]⟩, fun z => absurd z (by omega)⟩
    simp only [kp, Option.bind_some, show ur_b (!false) = (1 : Int32) from rfl, e10, cond_false, f1]
    rfl
theorem m_cls (hM : oModel s R 208) (hs : mS f g q i) : (kdT q i ≠ 59 → ur_call ur_G (d + 3) 160 [.ref 208] (s, f, g, R) = some (0, (s, ur_u f 208 9 (nI (1 + 16 * bgT q i)), g, R))) ∧ (kdT q i = 59 → ∃ f' g', ur_call ur_G (d + 3) 160 [.ref 208] (s, f, g, R) = some (1, (s, f', g', R)) ∧ mS f' g' q (enT q i) ∧ eqT TF2 f f' ∧ eqL GF2 g g') := by
  have f1 := m_fl (d := d + 1) hM hs (k := 1) (v := 1) rfl
  constructor
  · intro hk
    have s59 := sgF (d := d + 1) hM hs (v := 59) (c := 59) rfl (by decide) (by decide) hk
    refine ur_cl hM.rcv rfl (e_X10_closes_0 _ _ ?_)
    simp only [s59, Option.bind_some, d00, cond_false, f1]
    rfl
  · intro hk
    have s59 := sgT (d := d + 1) hM hs (v := 59) (c := 59) rfl (by decide) (by decide) hk
    obtain ⟨fa, ga, v1, v2, v3, v4⟩ := m_nx (d := d) hM hs
    refine ⟨fa, ga, ur_cl hM.rcv rfl (e_X10_closes_0 _ _ ?_), v2, v3, v4⟩
    simp only [s59, Option.bind_some, d10, cond_true, v1]
theorem m_both {x : Int64} (hM : oModel s R 208) (hs : mS f g q i) (hk : k < 20) (hx : x = lN (wN 27 (kwl.getD k []))) {v v' : Int32} (hv : v = nI lo) (hv' : v' = nI hi) (hlo : lo < 2 ^ 31) (hhi : hi < 2 ^ 31) : (kdT q i ≠ 100 + k → ur_call ur_G (d + 3) 159 [.ref 208, .long x, .int v, .int v'] (s, f, g, R) = some (0, (s, ur_u f 208 9 (nI (1 + 16 * bgT q i)), g, R))) ∧ (kdT q i = 100 + k → (pNum q lo hi (enT q i) ≠ 0 → ∃ f' g', ur_call ur_G (d + 3) 159 [.ref 208, .long x, .int v, .int v'] (s, f, g, R) = some (0, (s, f', g', R)) ∧ f' 208 9 = nI (pNum q lo hi (enT q i)) ∧ eqT TF2 f f' ∧ eqL GF2 g g') ∧ (pNum q lo hi (enT q i) = 0 → ∃ f' g', ur_call ur_G (d + 3) 159 [.ref 208, .long x, .int v, .int v'] (s, f, g, R) = some (1, (s, f', g', R)) ∧ mS f' g' q (enT q (enT q i)) ∧ f' 208 34 = nI (nmT q (enT q i)) ∧ (lo ≤ nmT q (enT q i) ∧ nmT q (enT q i) ≤ hi) ∧ eqT (fun a k => TF2 a k ∨ (a = 208 ∧ k = 34)) f f' ∧ eqL GF2 g g')) := by
  have f1 := m_fl (d := d + 1) hM hs (k := 1) (v := 1) rfl
  constructor
  · intro hn
    have w := wdF (d := d + 1) hM hs hk hx hn
    refine ur_cl hM.rcv rfl (e_X10_needsBoth_0 _ _ _ _ _ ?_)
    simp only [w, Option.bind_some, d00, cond_false, f1]
    rfl
  · intro hy
    have w := wdT (d := d + 1) hM hs hk hx hy
    obtain ⟨fa, ga, v1, v2, v3, v4⟩ := m_nx (d := d) hM hs
    have f1a := m_fl (d := d + 1) hM v2 (k := 1) (v := 1) rfl
    have f4a := m_fl (d := d + 1) hM v2 (k := 4) (v := 4) rfl
    have tkd : decide (fa 208 6 = (2 : Int32)) = decide (kdT q (enT q i) = 2) := by
      rw [v2.tk]
      by_cases k2 : kdT q (enT q i) = 2
      · rw [k2]; rfl
      · rw [decide_eq_false k2]
        have h4 : tkM (kdT q (enT q i)) ≤ 4 := by
          rcases isW_d (k := kdT q (enT q i)) with z | z
          · rw [tk_W z]; decide
          · exact (tk_ne z).2
        refine decide_eq_false (fun z => ?_)
        have e := (nI_eq (b := 2) (by omega) (by decide)).mp z
        rcases isW_d (k := kdT q (enT q i)) with z | z
        · rw [tk_W z] at e; omega
        · rw [tk_nW z, decide_eq_false k2] at e
          revert e
          cases decide (kdT q (enT q i) = 1) <;> cases decide (kdT q (enT q i) = 0) <;> simp
    by_cases k2 : kdT q (enT q i) = 2
    · have hn := nm_lt v2.sm v2.le k2
      have wi := t_within (d := d + 1) (s := s) (f := fa) (g := ga) (R := R) (x := nI (nmT q (enT q i))) (y := v) (z := v')
      rw [hv, hv', d_lt (show nmT q (enT q i) < 2 ^ 31 by omega) hlo, d_lt hhi (show nmT q (enT q i) < 2 ^ 31 by omega)] at wi
      by_cases hr : lo ≤ nmT q (enT q i) ∧ nmT q (enT q i) ≤ hi
      · have e : pNum q lo hi (enT q i) = 0 := by
          unfold pNum
          rw [if_neg (fun z => z k2), if_pos hr]
        rw [decide_eq_false (show ¬ nmT q (enT q i) < lo by omega), decide_eq_false (show ¬ hi < nmT q (enT q i) by omega)] at wi
        refine ⟨fun z => absurd e z, fun _ => ?_⟩
        have t1 : eqT (fun a k => a = 208 ∧ k = 34) fa (ur_u fa 208 34 (nI (nmT q (enT q i)))) := eqT_u ⟨rfl, rfl⟩
        have hs1 : mS (ur_u fa 208 34 (nI (nmT q (enT q i)))) ga q (enT q i) := v2.fr t1 (eqL.refl (T := fun _ _ => False)) (fun k z1 z2 z => by omega) (fun k z => by omega) (fun z => z)
        obtain ⟨fb, gb, w1, w2, w3, w4⟩ := m_nx (d := d) hM hs1
        refine ⟨fb, gb, ur_cl hM.rcv rfl (e_X10_needsBoth_0 _ _ _ _ _ ?_), w2, by rw [w3 _ _ (by unfold TF2; omega), ur_us], hr, ((v3.mono (fun a k z => Or.inl z)).trans (t1.mono (fun a k z => Or.inr z))).trans (w3.mono (fun a k z => Or.inl z)), v4.trans w4⟩
        rw [hv, hv']
        simp only [w, Option.bind_some, d10, cond_true, v1, hM.I, tkd, decide_eq_true k2, v2.nu k2, wi, show ur_b (!false && !false) = (1 : Int32) from rfl, hM.pI, w1]
      · have e : pNum q lo hi (enT q i) = 4 + 16 * bgT q (enT q i) := by
          unfold pNum
          rw [if_neg (fun z => z k2), if_neg hr]
        have ef : (!decide (nmT q (enT q i) < lo) && !decide (hi < nmT q (enT q i))) = false := by
          by_cases h1 : nmT q (enT q i) < lo
          · rw [decide_eq_true h1]; rfl
          · rw [decide_eq_true (show hi < nmT q (enT q i) by omega), Bool.not_true, Bool.and_false]
        rw [ef] at wi
        refine ⟨fun _ => ⟨ur_u fa 208 9 (nI (4 + 16 * bgT q (enT q i))), ga, ur_cl hM.rcv rfl (e_X10_needsBoth_0 _ _ _ _ _ ?_), by rw [ur_us, e], v3.u ⟨rfl, by decide, by decide⟩, v4⟩, fun z => absurd z (by omega)⟩
        rw [hv, hv']
        simp only [w, Option.bind_some, d10, cond_true, v1, hM.I, tkd, decide_eq_true k2, v2.nu k2, wi, show ur_b false = (0 : Int32) from rfl, d00, cond_false, f4a]
        rfl
    · have e : pNum q lo hi (enT q i) = 1 + 16 * bgT q (enT q i) := by
        unfold pNum
        rw [if_pos k2]
      refine ⟨fun _ => ⟨ur_u fa 208 9 (nI (1 + 16 * bgT q (enT q i))), ga, ur_cl hM.rcv rfl (e_X10_needsBoth_0 _ _ _ _ _ ?_), by rw [ur_us, e], v3.u ⟨rfl, by decide, by decide⟩, v4⟩, fun z => absurd z (by omega)⟩
      simp only [w, Option.bind_some, d10, cond_true, v1, hM.I, tkd, decide_eq_false k2, cond_false, f1a]
      rfl
end URLM

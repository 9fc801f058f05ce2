/-! THE REFERENCE READS A ROOM, A DOOR, A PERSON -/
def pP2 (q : Nat × (Nat → Nat)) (z : uPL) (ws : List Nat) (kk j : Nat) : uSR :=
  if kdT q (enT q j) ≠ 105 then .inl (1 + 16 * bgT q (enT q j))
  else if pNum q 0 99 (enT q (enT q j)) ≠ 0 then .inl (pNum q 0 99 (enT q (enT q j)))
  else if kdT q (enT q (enT q (enT q j))) ≠ 106 then .inl (1 + 16 * bgT q (enT q (enT q (enT q j))))
  else if pRnm q z (enT q (enT q (enT q (enT q j)))) ≠ 0 then .inl (pRnm q z (enT q (enT q (enT q (enT q j)))))
  else if 0 < zHo z (ix (knR z (wlT q (enT q (enT q (enT q (enT q j))))))) then .inl (2 + 16 * bgT q (enT q (enT q (enT q (enT q j)))))
  else .inr (enT q (enT q (enT q (enT q (enT q j)))), addP z ws kk (nmT q (enT q (enT q j))) (ix (knR z (wlT q (enT q (enT q (enT q (enT q j))))))))
theorem pPers_eq {q : Nat × (Nat → Nat)} {z : uPL} {i : Nat} : pPers q z i = if 5 ≤ zP z then .inl (5 + 16 * bgT q i) else if pNew q z (enT q i) ≠ 0 then .inl (pNew q z (enT q i)) else if kdT q (enT q (enT q i)) < 113 ∨ 116 < kdT q (enT q (enT q i)) then .inl (1 + 16 * bgT q (enT q (enT q i))) else pP2 q z (wlT q (enT q i)) (kdT q (enT q (enT q i)) - 113) (enT q (enT q i)) := rfl
section URLN
variable {s : List (Nat ⊕ (Nat × Nat))} {f f' f1 f2 : Nat → Nat → Int32} {g g' : Nat → Nat → Int64} {R : Nat → Nat → Option Nat} {d i j k ka kb : Nat} {q : Nat × (Nat → Nat)} {z : uPL} {ws : List Nat}
theorem m_fin (hM : oModel s R 208) (hs : mS f g q i) (h : mLn f g z) : ∃ v f' g', ur_call ur_G (d + 3) 160 [.ref 208] (s, f, g, R) = some (v, (s, f', g', R)) ∧ ur_fit 1 v = true ∧ mSR f' g' q (pCl q (.inr (i, z))) v ∧ eqT TMa f f' ∧ eqL GMa g g' := by
  obtain ⟨c1, c2⟩ := m_cls (d := d) hM hs
  show ∃ v f' g', _ ∧ _ ∧ mSR f' g' q (if kdT q i = 59 then .inr (enT q i, z) else .inl (1 + 16 * bgT q i)) v ∧ _
  by_cases k : kdT q i = 59
  · rw [if_pos k]
    obtain ⟨fa, ga, v1, v2, v3, v4⟩ := c2 k
    exact ⟨1, fa, ga, v1, by decide, ⟨rfl, v2, h.tp v3 v4⟩, v3.mono TF2_Ma, v4.mono GF2_Ma⟩
  · rw [if_neg k]
    exact ⟨0, ur_u f 208 9 (nI (1 + 16 * bgT q i)), g, c1 k, by decide, ⟨rfl, ur_us⟩, eqT_u (Or.inl ⟨rfl, Or.inl ⟨by decide, by decide⟩⟩), eqL.refl⟩
theorem m_addR {h : Nat} (hM : oModel s R 208) (hs : mS f g q i) (hl : mLn f g z) (hz : zW z) (hN : zN z < 8) (h34 : f 208 34 = nI h) (h35 : g 208 35 = lN (wN 27 ws)) : ∃ v f' g', ur_at ur_G (d + 3) 163 (59, [some (.ref 208), none, some (.int (nI (8 + zN z)))], [], (s, f, g, R)) = some (v, (s, f', g', R)) ∧ mSR f' g' q (pCl q (.inr (i, addR z ws h))) v ∧ eqT TMa f f' ∧ eqL GMa g g' := by
  obtain ⟨f2, hf2⟩ : ∃ f2, f2 = ur_u (ur_u (ur_u f (208 + 4) (8 + zN z) (nI h)) (208 + 5) (8 + zN z) 0) (208 + 2) 3 (nI (zN z + 1)) := ⟨_, rfl⟩
  obtain ⟨g2, hg2⟩ : ∃ g2, g2 = ur_u g (208 + 3) (8 + zN z) (lN (wN 27 ws)) := ⟨_, rfl⟩
  have t2 : eqT (fun a k => (a = 210 ∧ k = 3) ∨ ((a = 212 ∨ a = 213) ∧ k = 8 + zN z)) f f2 := by
    rw [hf2]
    exact ((eqT_u (by omega)).u (by omega)).u (by omega)
  have tg : eqL (fun a k => a = 211 ∧ k = 8 + zN z) g g2 := by
    rw [hg2]
    exact eqL_u (by omega)
  have hs2 : mS f2 g2 q i := hs.fr t2 tg (fun k _ _ z => by omega) (fun k z => by omega) (by omega)
  have l2 : mLn f2 g2 (addR z ws h) := by
    obtain ⟨⟨a1, a2, a3⟩, b1, b2⟩ := hl
    refine ⟨⟨by rw [hf2]; exact ur_us, by rw [t2 _ _ (by omega)]; exact a2, by rw [t2 _ _ (by omega)]; exact a3⟩, fun r hr => ?_, fun p hp => by rw [tg _ _ (by omega), t2 _ _ (by omega), t2 _ _ (by omega), t2 _ _ (by omega)]; exact b2 p hp⟩
    have hr' : r < zN z + 1 := hr
    show _ = lN (wN 27 (upA (zRn z) (zN z) ws r)) ∧ _ = nI (upA (zHo z) (zN z) h r) ∧ _ = zDr z r
    by_cases e : r = zN z
    · rw [e, upA_s, upA_s, hg2, hf2]
      refine ⟨ur_usg, ?_, ?_⟩
      · rw [ur_ua (by decide), ur_ua (by decide)]; exact ur_us
      · rw [ur_ua (by decide), hz.2.2.2.1 _ (Nat.le_refl _)]; exact ur_us
    · rw [upA_n e, upA_n e, tg _ _ (by omega), t2 _ _ (by omega), t2 _ _ (by omega)]
      exact b1 r (by omega)
  obtain ⟨v, f3, g3, v1, v2, v3, v4, v5⟩ := m_fin (d := d) hM hs2 l2
  refine ⟨v, f3, g3, e_X10_readsRoom_59 _ _ _ ?_, v3, (t2.mono (fun a k z => by unfold TMa; omega)).trans v4, (tg.mono (fun a k z => by unfold GMa; omega)).trans v5⟩
  have w4 : ∀ f : Nat → Nat → Int32, ur_wI (s, f, g, R) (208 + 4) 0 (nI (8 + zN z)) (nI h) = some (s, ur_u f (208 + 4) (8 + zN z) (nI h), g, R) := fun f => hM.w4 (by omega)
  have w5 : ∀ f : Nat → Nat → Int32, ur_wI (s, f, g, R) (208 + 5) 0 (nI (8 + zN z)) 0 = some (s, ur_u f (208 + 5) (8 + zN z) 0, g, R) := fun f => hM.w5 (by omega)
  have w3 : ∀ f : Nat → Nat → Int32, ur_wL (s, f, g, R) (208 + 3) (nI (8 + zN z)) (lN (wN 27 ws)) = some (s, f, ur_u g (208 + 3) (8 + zN z) (lN (wN 27 ws)), R) := fun f => hM.w3 (by omega)
  have a2 : ∀ (f : Nat → Nat → Int32) (g : Nat → Nat → Int64), ur_aI (s, f, g, R) (208 + 2) 0 (3 : Int32) = some (f (208 + 2) 3) := fun f g => hM.a2 (j := 3) (by decide)
  have w2 : ∀ (f : Nat → Nat → Int32) (g : Nat → Nat → Int64) (v : Int32), ur_wI (s, f, g, R) (208 + 2) 0 (3 : Int32) v = some (s, ur_u f (208 + 2) 3 v, g, R) := fun f g v => hM.w2 (j := 3) (by decide)
  have e3 : ur_u (ur_u f (208 + 4) (8 + zN z) (nI h)) (208 + 5) (8 + zN z) 0 (208 + 2) 3 = nI (zN z) := by rw [ur_ua (by decide), ur_ua (by decide)]; exact hl.1.1
  simp only [hM.r12, hM.I, h34, Option.bind_some, w4, hM.r13, w5, hM.r11, hM.L, h35, w3, hM.r10, a2, e3, w2, nI_1, ← hf2, ← hg2, v1, v2, cond_true]
theorem m_room {p : Int32} {sil : Bool} (hp : decide (p = 0) = !sil) (hM : oModel s R 208) (hs : mS f g q i) (h : mLn f g z) (hz : zW z) : ∃ v f' g', ur_call ur_G (d + 4) 163 [.ref 208, .int p] (s, f, g, R) = some (v, (s, f', g', R)) ∧ mSR f' g' q (pCl q (pRoom q z sil i)) v ∧ eqT TMa f f' ∧ eqL GMa g g' := by
  have h8 := hz.1.1
  have a2 : ur_aI (s, f, g, R) (208 + 2) 0 (3 : Int32) = some (f (208 + 2) 3) := hM.a2 (j := 3) (by decide)
  have e3 : f (208 + 2) 3 = nI (zN z) := h.1.1
  have n8 : (8 : Int32) + nI (zN z) = nI (8 + zN z) := nI_add 8 (zN z)
  unfold pRoom
  by_cases hN : 8 ≤ zN z
  · rw [if_pos hN]
    have dn : decide (nI (8 + zN z) ≠ (16 : Int32)) = false := decide_eq_false (fun y => y (by rw [show 8 + zN z = 16 by omega]; rfl))
    have fl := m_fl (d := d + 2) hM hs (k := 5) (v := 5) rfl
    refine ⟨0, ur_u f 208 9 (nI (5 + 16 * bgT q i)), g, ur_cl hM.rcv rfl (e_X10_readsRoom_0 _ _ _ ?_), ⟨rfl, ur_us⟩, eqT_u (Or.inl ⟨rfl, Or.inl ⟨by decide, by decide⟩⟩), eqL.refl⟩
    simp only [hM.r10, Option.bind_some, a2, e3, n8, dn, cond_false, fl]
    rfl
  · rw [if_neg hN]
    have dn : decide (nI (8 + zN z) ≠ (16 : Int32)) = true := decide_eq_true (fun e => by
      have := (nI_eq (b := 16) (by omega) (by decide)).mp e
      omega)
    obtain ⟨f1, g1, a1, b1, c1, c2⟩ := m_nx (d := d + 1) hM hs
    have l1 := h.tp c1 c2
    obtain ⟨n1, n2⟩ := m_new (d := d) hM b1 l1 hz
    by_cases e0 : pNew q z (enT q i) = 0
    · rw [if_neg (fun y => y e0)]
      obtain ⟨f2, g2, o1, o2, o3, o4, o5, o6, k3⟩ := n2 e0
      have t3 : eqT (fun a k => a = 208 ∧ k = 34) f2 (ur_u f2 208 34 0) := eqT_u ⟨rfl, rfl⟩
      have s3 : mS (ur_u f2 208 34 0) g2 q (enT q (enT q i)) := o2.fr t3 (eqL.refl (T := fun _ _ => False)) (fun k z1 z2 y => by omega) (fun k y => by omega) (fun y => y)
      have l3 : mLn (ur_u f2 208 34 0) g2 z := o3.fr t3 (eqL.refl (T := fun _ _ => False)) (fun a k z1 z2 y => by omega) (fun a k _ _ y => y)
      have t : eqT TMa f (ur_u f2 208 34 0) := ((c1.mono TF2_Ma).trans o5).trans (t3.mono (fun a k y => by unfold TMa; omega))
      have tg : eqL GMa g g2 := (c2.mono GF2_Ma).trans o6
      cases sil with
      | false =>
        rw [if_pos rfl]
        obtain ⟨v, f4, g4, v1, v2, v3, v4⟩ := m_addR (d := d) (h := 0) (ws := wlT q (enT q i)) hM s3 l3 hz (by omega) ur_us o4
        refine ⟨v, f4, g4, ur_cl hM.rcv rfl (e_X10_readsRoom_0 _ _ _ ?_), v2, t.trans v3, tg.trans v4⟩
        simp only [hM.r10, Option.bind_some, a2, e3, n8, dn, cond_true, a1, o1, d10, hM.pI, hp, Bool.not_false, v1]
      | true =>
        rw [if_neg (show ¬ (true = false) from fun y => by cases y)]
        obtain ⟨p1, p2⟩ := m_both (d := d) (k := 2) (x := 4555648) (v := 1) (v' := 20) (lo := 1) (hi := 20) hM s3 (by decide) (by decide +kernel) rfl rfl (by decide) (by decide)
        by_cases k2 : kdT q (enT q (enT q i)) = 102
        · rw [if_neg (fun y => y k2)]
          obtain ⟨p3, p4⟩ := p2 k2
          by_cases en : pNum q 1 20 (enT q (enT q (enT q i))) = 0
          · rw [if_neg (fun y => y en)]
            obtain ⟨f4, g4, w1, w2, w3, w4, w5, w6⟩ := p4 en
            have l4 : mLn f4 g4 z := l3.fr w5 w6 (fun a k z1 z2 y => by unfold TF2 at y; omega) (fun a k z1 z2 y => by unfold GF2 at y; omega)
            have o4' : g4 208 35 = lN (wN 27 (wlT q (enT q i))) := by rw [w6 _ _ (by unfold GF2; omega)]; exact o4
            obtain ⟨v, f5, g5, v1, v2, v3, v4⟩ := m_addR (d := d) (h := nmT q (enT q (enT q (enT q i)))) (ws := wlT q (enT q i)) hM w2 l4 hz (by omega) w3 o4'
            refine ⟨v, f5, g5, ur_cl hM.rcv rfl (e_X10_readsRoom_0 _ _ _ ?_), v2, (t.trans (w5.mono (fun a k y => by unfold TF2 at y; unfold TMa; omega))).trans v3, (tg.trans (w6.mono GF2_Ma)).trans v4⟩
            simp only [hM.r10, Option.bind_some, a2, e3, n8, dn, cond_true, a1, o1, d10, hM.pI, hp, Bool.not_true, cond_false, w1, v1]
          · rw [if_pos en]
            obtain ⟨f4, g4, w1, w2, w3, w4⟩ := p3 en
            refine ⟨0, f4, g4, ur_cl hM.rcv rfl (e_X10_readsRoom_0 _ _ _ ?_), ⟨rfl, w2⟩, t.trans (w3.mono TF2_Ma), tg.trans (w4.mono GF2_Ma)⟩
            simp only [hM.r10, Option.bind_some, a2, e3, n8, dn, cond_true, a1, o1, d10, hM.pI, hp, Bool.not_true, cond_false, w1, d00]
        · rw [if_pos k2]
          refine ⟨0, ur_u (ur_u f2 208 34 0) 208 9 (nI (1 + 16 * bgT q (enT q (enT q i)))), g2, ur_cl hM.rcv rfl (e_X10_readsRoom_0 _ _ _ ?_), ⟨rfl, ur_us⟩, t.u (Or.inl ⟨rfl, Or.inl ⟨by decide, by decide⟩⟩), tg⟩
          simp only [hM.r10, Option.bind_some, a2, e3, n8, dn, cond_true, a1, o1, d10, hM.pI, hp, Bool.not_true, cond_false, p1 k2, d00]
    · rw [if_pos e0]
      refine ⟨0, ur_u f1 208 9 (nI (pNew q z (enT q i))), g1, ur_cl hM.rcv rfl (e_X10_readsRoom_0 _ _ _ ?_), ⟨rfl, ur_us⟩, (c1.mono TF2_Ma).u (Or.inl ⟨rfl, Or.inl ⟨by decide, by decide⟩⟩), c2.mono GF2_Ma⟩
      simp only [hM.r10, Option.bind_some, a2, e3, n8, dn, cond_true, a1, n1 e0, d00, cond_false]
/-- a door's end -/
theorem m_addD (hM : oModel s R 208) (hs : mS f g q i) (hl : mLn f g z) (hz : zW z) (ha : ka < zN z) (hb : kb < zN z) (hne : ka ≠ kb) (h34 : f 208 34 = nI kb) : ∃ v f' g', ur_at ur_G (d + 3) 164 (84, [some (.ref 208), some (.int (nI (8 + ka))), some (.int (nI (8 + kb)))], [], (s, f, g, R)) = some (v, (s, f', g', R)) ∧ mSR f' g' q (pCl q (if bt (zDr z ka) kb = false then .inr (enT q i, addD z ka kb) else .inl (3 + 16 * bgT q i))) v ∧ eqT TMa f f' ∧ eqL GMa g g' := by
  have h8 := hz.1.1
  have a5 : ∀ (f : Nat → Nat → Int32), ur_aI (s, f, g, R) (208 + 5) 0 (nI (8 + ka)) = some (f (208 + 5) (8 + ka)) := fun f => hM.a5 (by omega)
  have a5' : ∀ (f : Nat → Nat → Int32), ur_aI (s, f, g, R) (208 + 5) 0 (nI (8 + kb)) = some (f (208 + 5) (8 + kb)) := fun f => hM.a5 (by omega)
  have ea : f (208 + 5) (8 + ka) = zDr z ka := (hl.2.1 ka ha).2.2
  have eb : f (208 + 5) (8 + kb) = zDr z kb := (hl.2.1 kb hb).2.2
  by_cases hb' : bt (zDr z ka) kb = false
  · rw [if_pos hb']
    have sa : nI (8 + ka) - (8 : Int32) = nI ka := by rw [show (8 : Int32) = nI 8 from rfl, pk_sub (by omega), show 8 + ka - 8 = ka by omega]
    have sb : nI (8 + kb) - (8 : Int32) = nI kb := by rw [show (8 : Int32) = nI 8 from rfl, pk_sub (by omega), show 8 + kb - 8 = kb by omega]
    have w5 : ∀ (f : Nat → Nat → Int32) (v : Int32), ur_wI (s, f, g, R) (208 + 5) 0 (nI (8 + ka)) v = some (s, ur_u f (208 + 5) (8 + ka) v, g, R) := fun f v => hM.w5 (by omega)
    have w5' : ∀ (f : Nat → Nat → Int32) (v : Int32), ur_wI (s, f, g, R) (208 + 5) 0 (nI (8 + kb)) v = some (s, ur_u f (208 + 5) (8 + kb) v, g, R) := fun f v => hM.w5 (by omega)
    have a2 : ∀ (f : Nat → Nat → Int32), ur_aI (s, f, g, R) (208 + 2) 0 (4 : Int32) = some (f (208 + 2) 4) := fun f => hM.a2 (j := 4) (by decide)
    have w2 : ∀ (f : Nat → Nat → Int32) (v : Int32), ur_wI (s, f, g, R) (208 + 2) 0 (4 : Int32) v = some (s, ur_u f (208 + 2) 4 v, g, R) := fun f v => hM.w2 (j := 4) (by decide)
    obtain ⟨f2, hf2⟩ : ∃ f2, f2 = ur_u (ur_u (ur_u f (208 + 5) (8 + ka) (zDr z ka ||| bit1 kb)) (208 + 5) (8 + kb) (zDr z kb ||| bit1 ka)) (208 + 2) 4 (nI (zD z + 1)) := ⟨_, rfl⟩
    have t2 : eqT (fun a k => (a = 210 ∧ k = 4) ∨ (a = 213 ∧ (k = 8 + ka ∨ k = 8 + kb))) f f2 := by
      rw [hf2]
      exact ((eqT_u (by omega)).u (by omega)).u (by omega)
    have hs2 : mS f2 g q i := hs.fr t2 (eqL.refl (T := fun _ _ => False)) (fun k _ _ z => by omega) (fun k z => by omega) (fun z => z)
    have l2 : mLn f2 g (addD z ka kb) := by
      obtain ⟨⟨a1, a2, a3⟩, b1, b2⟩ := hl
      refine ⟨⟨by rw [t2 _ _ (by omega)]; exact a1, by rw [hf2]; exact ur_us, by rw [t2 _ _ (by omega)]; exact a3⟩, fun r hr => ?_, fun p hp => by rw [t2 _ _ (by omega), t2 _ _ (by omega), t2 _ _ (by omega)]; exact b2 p hp⟩
      obtain ⟨c1, c2, c3⟩ := b1 r hr
      refine ⟨c1, by rw [t2 _ _ (by omega)]; exact c2, ?_⟩
      show f2 213 (8 + r) = upA (upA (zDr z) ka (zDr z ka ||| bit1 kb)) kb (zDr z kb ||| bit1 ka) r
      by_cases e : r = kb
      · rw [e, upA_s, hf2, ur_ua (by decide)]; exact ur_us
      · rw [upA_n e]
        by_cases e2 : r = ka
        · rw [e2, upA_s, hf2, ur_ua (by decide)]
          show ur_u (ur_u f 213 (8 + ka) (zDr z ka ||| bit1 kb)) 213 (8 + kb) (zDr z kb ||| bit1 ka) 213 (8 + ka) = _
          rw [ur_un (by omega), ur_us]
        · rw [upA_n e2, t2 _ _ (by omega)]; exact c3
    obtain ⟨f3, g3, v1, v2, v3, v4⟩ := m_nx (d := d + 1) hM hs2
    obtain ⟨v, f4, g4, o1, o2, o3, o4, o5⟩ := m_fin (d := d) hM v2 (l2.tp v3 v4)
    refine ⟨v, f4, g4, e_X10_readsDoor_84 _ _ _ _ ?_, o3, ((t2.mono (fun a k z => by unfold TMa; omega)).trans (v3.mono TF2_Ma)).trans o4, (v4.mono GF2_Ma).trans o5⟩
    have e2b : ur_u f (208 + 5) (8 + ka) (zDr z ka ||| bit1 kb) (208 + 5) (8 + kb) = zDr z kb := by rw [ur_un (by omega)]; exact eb
    have e4 : ur_u (ur_u f (208 + 5) (8 + ka) (zDr z ka ||| bit1 kb)) (208 + 5) (8 + kb) (zDr z kb ||| bit1 ka) (208 + 2) 4 = nI (zD z) := by rw [ur_ua (by decide), ur_ua (by decide)]; exact hl.1.2.1
    simp only [hM.r13, Option.bind_some, a5, ea, hM.I, h34, b_bit (show kb < 32 by omega), ub_n1, hb', Bool.not_false, cond_true, sb, show (1 : Int32) <<< (nI kb &&& 31) = bit1 kb from rfl, w5, a5', e2b, sa, show (1 : Int32) <<< (nI ka &&& 31) = bit1 ka from rfl, w5', hM.r10, a2, e4, w2, nI_1, ← hf2, v1, o1, o2]
  · rw [if_neg hb']
    have hbt : bt (zDr z ka) kb = true := by
      cases e : bt (zDr z ka) kb with
      | true => rfl
      | false => exact absurd e hb'
    have fl := m_fl (d := d + 2) hM hs (k := 3) (v := 3) rfl
    refine ⟨0, ur_u f 208 9 (nI (3 + 16 * bgT q i)), g, e_X10_readsDoor_84 _ _ _ _ ?_, ⟨rfl, ur_us⟩, eqT_u (Or.inl ⟨rfl, Or.inl ⟨by decide, by decide⟩⟩), eqL.refl⟩
    simp only [hM.r13, Option.bind_some, a5, ea, hM.I, h34, b_bit (show kb < 32 by omega), ub_n1, hbt, Bool.not_true, cond_false, fl]
    rfl
theorem m_door (hM : oModel s R 208) (hs : mS f g q i) (h : mLn f g z) (hz : zW z) : ∃ v f' g', ur_call ur_G (d + 4) 164 [.ref 208] (s, f, g, R) = some (v, (s, f', g', R)) ∧ mSR f' g' q (pCl q (pDoor q z i)) v ∧ eqT TMa f f' ∧ eqL GMa g g' := by
  have h8 := hz.1.1
  have hD := hz.1.2.2
  have a2 : ur_aI (s, f, g, R) (208 + 2) 0 (4 : Int32) = some (f (208 + 2) 4) := hM.a2 (j := 4) (by decide)
  have e3 : f (208 + 2) 4 = nI (zD z) := h.1.2.1
  unfold pDoor
  by_cases hN : 10 ≤ zD z
  · rw [if_pos hN]
    have dn : decide (nI (zD z) ≠ (10 : Int32)) = false := decide_eq_false (fun y => y (by rw [show zD z = 10 by omega]; rfl))
    have fl := m_fl (d := d + 2) hM hs (k := 5) (v := 5) rfl
    refine ⟨0, ur_u f 208 9 (nI (5 + 16 * bgT q i)), g, ur_cl hM.rcv rfl (e_X10_readsDoor_0 _ _ ?_), ⟨rfl, ur_us⟩, eqT_u (Or.inl ⟨rfl, Or.inl ⟨by decide, by decide⟩⟩), eqL.refl⟩
    simp only [hM.r10, Option.bind_some, a2, e3, dn, cond_false, fl]
    rfl
  · rw [if_neg hN]
    have dn : decide (nI (zD z) ≠ (10 : Int32)) = true := decide_eq_true (fun e => by
      have := (nI_eq (b := 10) (by omega) (by decide)).mp e
      omega)
    obtain ⟨f1, g1, a1, b1, c1, c2⟩ := m_nx (d := d + 1) hM hs
    have l1 := h.tp c1 c2
    obtain ⟨f2, t2, l2, n1, n2⟩ := m_rnm (d := d + 1) hM b1 l1 hz
    have t2' : eqT TMa f f2 := (c1.mono TF2_Ma).trans (t2.mono TRn_Ma)
    by_cases e0 : pRnm q z (enT q i) = 0
    · rw [if_neg (fun y => y e0)]
      obtain ⟨o1, o2, o3, ka, o4, o5, o6, o7⟩ := n2 e0
      rw [o6]
      obtain ⟨f3, g3, v1, v2, v3, v4⟩ := m_nx (d := d + 1) hM o2
      have l3 := l2.tp v3 v4
      obtain ⟨f4, t4, l4, p1, p2⟩ := m_rnm (d := d + 1) hM v2 l3 hz
      have t4' : eqT TMa f f4 := (t2'.trans (v3.mono TF2_Ma)).trans (t4.mono TRn_Ma)
      have tg4 : eqL GMa g g3 := (c2.mono GF2_Ma).trans (v4.mono GF2_Ma)
      by_cases e1 : pRnm q z (enT q (enT q i)) = 0
      · rw [if_neg (fun y => y e1)]
        obtain ⟨w1, w2, w3, kb, w4, w5, w6, w7⟩ := p2 e1
        rw [w6]
        have na : (8 : Int32) + nI ka = nI (8 + ka) := nI_add 8 ka
        have nb : (8 : Int32) + nI kb = nI (8 + kb) := nI_add 8 kb
        have dab : decide (nI (8 + ka) = nI (8 + kb)) = decide (ka = kb) := by
          rw [d_eq (by omega) (by omega)]
          exact decide_eq_decide.mpr (by omega)
        have fl := m_fl (d := d + 2) hM w2 (k := 3) (v := 3) rfl
        by_cases eab : ka = kb
        · have ej : pJoin z ka kb = false := by
            unfold pJoin
            rw [decide_eq_true eab]; rfl
          rw [if_neg (show ¬ pJoin z ka kb = true by rw [ej]; decide)]
          refine ⟨0, ur_u f4 208 9 (nI (3 + 16 * bgT q (enT q (enT q i)))), g3, ur_cl hM.rcv rfl (e_X10_readsDoor_0 _ _ ?_), ⟨rfl, ur_us⟩, t4'.u (Or.inl ⟨rfl, Or.inl ⟨by decide, by decide⟩⟩), tg4⟩
          simp only [hM.r10, Option.bind_some, a2, e3, dn, cond_true, a1, o1, d10, hM.I, o7, v1, w1, w7, na, nb, dab, decide_eq_true eab, fl]
          rfl
        · have a4a : ur_aI (s, f4, g3, R) (208 + 4) 0 (nI (8 + ka)) = some (f4 (208 + 4) (8 + ka)) := hM.a4 (by omega)
          have a4b : ur_aI (s, f4, g3, R) (208 + 4) 0 (nI (8 + kb)) = some (f4 (208 + 4) (8 + kb)) := hM.a4 (by omega)
          have ha4 : f4 (208 + 4) (8 + ka) = nI (zHo z ka) := (l4.2.1 ka o4).2.1
          have hb4 : f4 (208 + 4) (8 + kb) = nI (zHo z kb) := (l4.2.1 kb w4).2.1
          have ua := (hz.2.1 ka o4).2
          have ub := (hz.2.1 kb w4).2
          have le0 : decide (nI (zHo z ka) ≤ (0 : Int32)) = decide (zHo z ka ≤ 0) := d_le (b := 0) (by omega) (by decide)
          have lt0 : decide ((0 : Int32) < nI (zHo z kb)) = decide (0 < zHo z kb) := d_lt (a := 0) (by decide) (by omega)
          obtain ⟨v, f5, g5, q1, q2, q3, q4⟩ := m_addD (d := d) hM w2 l4 hz o4 w4 eab w7
          by_cases hh : 0 < zHo z ka ∧ 0 < zHo z kb
          · have ej : pJoin z ka kb = false := by
              unfold pJoin
              rw [decide_eq_true hh.1, decide_eq_true hh.2, decide_eq_false eab]; rfl
            rw [if_neg (show ¬ pJoin z ka kb = true by rw [ej]; decide)]
            refine ⟨0, ur_u f4 208 9 (nI (3 + 16 * bgT q (enT q (enT q i)))), g3, ur_cl hM.rcv rfl (e_X10_readsDoor_0 _ _ ?_), ⟨rfl, ur_us⟩, t4'.u (Or.inl ⟨rfl, Or.inl ⟨by decide, by decide⟩⟩), tg4⟩
            simp only [hM.r10, Option.bind_some, a2, e3, dn, cond_true, a1, o1, d10, hM.I, o7, v1, w1, w7, na, nb, dab, decide_eq_false eab, cond_false, hM.r12, a4a, ha4, le0, decide_eq_false (show ¬ zHo z ka ≤ 0 by omega), a4b, hb4, lt0, decide_eq_true hh.2, fl]
            rfl
          · have ej : pJoin z ka kb = !bt (zDr z ka) kb := by
              unfold pJoin
              have : (decide (0 < zHo z ka) && decide (0 < zHo z kb)) = false := by
                by_cases h1 : 0 < zHo z ka
                · rw [decide_eq_false (show ¬ 0 < zHo z kb from fun h2 => hh ⟨h1, h2⟩), Bool.and_false]
                · rw [decide_eq_false h1, Bool.false_and]
              rw [this, decide_eq_false eab]
              cases bt (zDr z ka) kb <;> rfl
            have ei : (if pJoin z ka kb = true then (Sum.inr (enT q (enT q (enT q i)), addD z ka kb) : uSR) else .inl (3 + 16 * bgT q (enT q (enT q i)))) = if bt (zDr z ka) kb = false then .inr (enT q (enT q (enT q i)), addD z ka kb) else .inl (3 + 16 * bgT q (enT q (enT q i))) := by
              rw [ej]
              cases bt (zDr z ka) kb <;> rfl
            rw [ei]
            refine ⟨v, f5, g5, ur_cl hM.rcv rfl (e_X10_readsDoor_0 _ _ ?_), q2, t4'.trans q3, tg4.trans q4⟩
            by_cases h1 : zHo z ka ≤ 0
            · simp only [hM.r10, Option.bind_some, a2, e3, dn, cond_true, a1, o1, d10, hM.I, o7, v1, w1, w7, na, nb, dab, decide_eq_false eab, cond_false, hM.r12, a4a, ha4, le0, decide_eq_true h1, q1]
            · simp only [hM.r10, Option.bind_some, a2, e3, dn, cond_true, a1, o1, d10, hM.I, o7, v1, w1, w7, na, nb, dab, decide_eq_false eab, cond_false, hM.r12, a4a, ha4, le0, decide_eq_false h1, a4b, hb4, lt0, decide_eq_false (show ¬ 0 < zHo z kb from fun h2 => hh ⟨by omega, h2⟩), q1]
      · rw [if_pos e1]
        obtain ⟨w1, w2⟩ := p1 e1
        refine ⟨0, f4, g3, ur_cl hM.rcv rfl (e_X10_readsDoor_0 _ _ ?_), ⟨rfl, w2⟩, t4', tg4⟩
        simp only [hM.r10, Option.bind_some, a2, e3, dn, cond_true, a1, o1, d10, hM.I, o7, v1, w1, d00, cond_false]
    · rw [if_pos e0]
      obtain ⟨o1, o2⟩ := n1 e0
      refine ⟨0, f2, g1, ur_cl hM.rcv rfl (e_X10_readsDoor_0 _ _ ?_), ⟨rfl, o2⟩, t2', c2.mono GF2_Ma⟩
      simp only [hM.r10, Option.bind_some, a2, e3, dn, cond_true, a1, o1, d00, cond_false]
theorem mLn.up {a : Nat} {v : Int32} (h : mLn f g z) (ha : a = 215 ∨ a = 216 ∨ a = 217) : mLn (ur_u f a (5 + zP z) v) g z := by
  have t : eqT (fun x k => x = a ∧ k = 5 + zP z) f (ur_u f a (5 + zP z) v) := eqT_u ⟨rfl, rfl⟩
  obtain ⟨⟨a1, a2, a3⟩, b1, b2⟩ := h
  refine ⟨⟨by rw [t _ _ (by omega), a1], by rw [t _ _ (by omega), a2], by rw [t _ _ (by omega), a3]⟩, fun r hr => ?_, fun p hp => ?_⟩
  · rw [t _ _ (by omega), t _ _ (by omega)]; exact b1 r hr
  · rw [t _ _ (by omega), t _ _ (by omega), t _ _ (by omega)]; exact b2 p hp
theorem mS.up {a k : Nat} {v : Int32} (h : mS f g q i) (ha : 209 < a) : mS (ur_u f a k v) g q i :=
  h.fr (T := fun x j => x = a ∧ j = k) (eqT_u ⟨rfl, rfl⟩) (eqL.refl (T := fun _ _ => False)) (fun j _ _ y => by omega) (fun j y => by omega) (fun y => y)
theorem m_p101 {kk : Nat} (hM : oModel s R 208) (hs : mS f g q j) (h : mLn f g z) (hz : zW z) (hP : zP z < 5) (hkk : kk ≤ 3) : ∃ v f' g', ur_at ur_G (d + 3) 165 (101, [some (.ref 208), some (.int (nI (5 + zP z))), some (.long (lN (wN 27 ws))), none], [.int (nI kk), .int (nI (5 + zP z)), .ref (208 + 7)], (s, f, g, R)) = some (v, (s, f', g', R)) ∧ mSR f' g' q (pCl q (pP2 q z ws kk j)) v ∧ eqT TMa f f' ∧ eqL GMa g g' := by
  have h8 := hz.1.1
  have w7 : ur_wI (s, f, g, R) (208 + 7) 0 (nI (5 + zP z)) (nI kk) = some (s, ur_u f (208 + 7) (5 + zP z) (nI kk), g, R) := hM.w7 (by omega)
  have a7 : ur_aI (s, ur_u f (208 + 7) (5 + zP z) (nI kk), g, R) (208 + 7) 0 (nI (5 + zP z)) = some (ur_u f (208 + 7) (5 + zP z) (nI kk) (208 + 7) (5 + zP z)) := hM.a7 (by omega)
  have k0 : decide ((0 : Int32) ≤ nI kk) = true := decide_eq_true (nI_pos' (by omega))
  obtain ⟨f1, hf1⟩ : ∃ f1, f1 = ur_u f (208 + 7) (5 + zP z) (nI kk) := ⟨_, rfl⟩
  rw [← hf1] at w7 a7
  have e7 : f1 (208 + 7) (5 + zP z) = nI kk := by rw [hf1, ur_us]
  have s1 : mS f1 g q j := by rw [hf1]; exact hs.up (by decide)
  have l1 : mLn f1 g z := by rw [hf1]; exact h.up (Or.inl rfl)
  have t1 : eqT TMa f f1 := by rw [hf1]; exact eqT_u (by unfold TMa; omega)
  obtain ⟨f2, g2, a1, b1, c1, c2⟩ := m_nx (d := d + 1) hM s1
  have l2 := l1.tp c1 c2
  have t2 : eqT TMa f f2 := t1.trans (c1.mono TF2_Ma)
  have tg2 : eqL GMa g g2 := c2.mono GF2_Ma
  have e72 : f2 215 (5 + zP z) = nI kk := by rw [c1 _ _ (by unfold TF2; omega)]; exact e7
  obtain ⟨p1, p2⟩ := m_both (d := d) (k := 5) (x := 923) (v := 0) (v' := 99) (lo := 0) (hi := 99) hM b1 (by decide) (by decide +kernel) rfl rfl (by decide) (by decide)
  unfold pP2
  by_cases k105 : kdT q (enT q j) = 105
  · rw [if_neg (fun y => y k105)]
    obtain ⟨p3, p4⟩ := p2 k105
    by_cases en : pNum q 0 99 (enT q (enT q j)) = 0
    · rw [if_neg (fun y => y en)]
      obtain ⟨f3, g3, w1, w2, w3, w4, w5, w6⟩ := p4 en
      have l3 : mLn f3 g3 z := l2.fr w5 w6 (fun a k z1 z2 y => by unfold TF2 at y; omega) (fun a k z1 z2 y => by unfold GF2 at y; omega)
      have t3 : eqT TMa f f3 := t2.trans (w5.mono (fun a k y => by unfold TF2 at y; unfold TMa; omega))
      have tg3 : eqL GMa g g3 := tg2.trans (w6.mono GF2_Ma)
      have w8 : ur_wI (s, f3, g3, R) (208 + 8) 0 (nI (5 + zP z)) (nI (nmT q (enT q (enT q j)))) = some (s, ur_u f3 (208 + 8) (5 + zP z) (nI (nmT q (enT q (enT q j)))), g3, R) := hM.w8 (by omega)
      obtain ⟨f4, hf4⟩ : ∃ f4, f4 = ur_u f3 (208 + 8) (5 + zP z) (nI (nmT q (enT q (enT q j)))) := ⟨_, rfl⟩
      rw [← hf4] at w8
      have s4 : mS f4 g3 q (enT q (enT q (enT q j))) := by rw [hf4]; exact w2.up (by decide)
      have l4 : mLn f4 g3 z := by rw [hf4]; exact l3.up (Or.inr (Or.inl rfl))
      have t4 : eqT TMa f f4 := by rw [hf4]; exact t3.u (by unfold TMa; omega)
      have e84 : f4 216 (5 + zP z) = nI (nmT q (enT q (enT q j))) := by rw [hf4]; exact ur_us
      have e74 : f4 215 (5 + zP z) = nI kk := by
        rw [hf4, ur_ua (by decide), w5 _ _ (by unfold TF2; omega)]; exact e72
      by_cases k106 : kdT q (enT q (enT q (enT q j))) = 106
      · rw [if_neg (fun y => y k106)]
        have wi := wdT (d := d + 2) hM s4 (k := 6) (x := 257) (by decide) (by decide +kernel) k106
        obtain ⟨f5, g5, x1, x2, x3, x4⟩ := m_nx (d := d + 1) hM s4
        have l5 := l4.tp x3 x4
        have t5 : eqT TMa f f5 := t4.trans (x3.mono TF2_Ma)
        have tg5 : eqL GMa g g5 := tg3.trans (x4.mono GF2_Ma)
        obtain ⟨f6, y1, l6, n1, n2⟩ := m_rnm (d := d + 1) hM x2 l5 hz
        have t6 : eqT TMa f f6 := t5.trans (y1.mono TRn_Ma)
        by_cases er : pRnm q z (enT q (enT q (enT q (enT q j)))) = 0
        · rw [if_neg (fun y => y er)]
          obtain ⟨o1, o2, o3, kr, o4, o5, o6, o7⟩ := n2 er
          rw [o6]
          have ua := (hz.2.1 kr o4).2
          have nb : (8 : Int32) + nI kr = nI (8 + kr) := nI_add 8 kr
          have a4 : ur_aI (s, f6, g5, R) (208 + 4) 0 (nI (8 + kr)) = some (f6 (208 + 4) (8 + kr)) := hM.a4 (by omega)
          have h4 : f6 (208 + 4) (8 + kr) = nI (zHo z kr) := (l6.2.1 kr o4).2.1
          have le0 : decide (nI (zHo z kr) ≤ (0 : Int32)) = decide (zHo z kr ≤ 0) := d_le (b := 0) (by omega) (by decide)
          by_cases eh : 0 < zHo z kr
          · rw [if_pos eh]
            have fl := m_fl (d := d + 2) hM o2 (k := 2) (v := 2) rfl
            refine ⟨0, ur_u f6 208 9 (nI (2 + 16 * bgT q (enT q (enT q (enT q (enT q j)))))), g5, e_X10_readsPerson_101 _ _ _ _ _ _ _ ?_, ⟨rfl, ur_us⟩, t6.u (Or.inl ⟨rfl, Or.inl ⟨by decide, by decide⟩⟩), tg5⟩
            simp only [w7, Option.bind_some, hM.r15, a7, e7, k0, cond_true, a1, w1, d10, hM.r16, hM.I, w3, w8, wi, x1, o1, hM.r12, o7, nb, a4, h4, le0, decide_eq_false (show ¬ zHo z kr ≤ 0 by omega), cond_false, fl]
            rfl
          · rw [if_neg eh]
            have w9 : ur_wI (s, f6, g5, R) (208 + 9) 0 (nI (5 + zP z)) (nI kr) = some (s, ur_u f6 (208 + 9) (5 + zP z) (nI kr), g5, R) := hM.w9 (by omega)
            obtain ⟨f7, hf7⟩ : ∃ f7, f7 = ur_u f6 (208 + 9) (5 + zP z) (nI kr) := ⟨_, rfl⟩
            rw [← hf7] at w9
            have s7 : mS f7 g5 q (enT q (enT q (enT q (enT q j)))) := by rw [hf7]; exact o2.up (by decide)
            have l7 : mLn f7 g5 z := by rw [hf7]; exact l6.up (Or.inr (Or.inr rfl))
            have t7 : eqT TMa f f7 := by rw [hf7]; exact t6.u (by unfold TMa; omega)
            obtain ⟨f8, g8, r1, r2, r3, r4⟩ := m_nx (d := d + 1) hM s7
            have l8 := l7.tp r3 r4
            have keep : ∀ a, (a = 215 ∨ a = 216) → f8 a (5 + zP z) = f4 a (5 + zP z) := fun a ha => by
              rw [r3 _ _ (by unfold TF2; omega), hf7, ur_ua (by omega), y1 _ _ (by omega), x3 _ _ (by unfold TF2; omega)]
            have e98 : f8 217 (5 + zP z) = nI kr := by
              rw [r3 _ _ (by unfold TF2; omega), hf7]; exact ur_us
            have w6' : ur_wL (s, f8, g8, R) (208 + 6) (nI (5 + zP z)) (lN (wN 27 ws)) = some (s, f8, ur_u g8 (208 + 6) (5 + zP z) (lN (wN 27 ws)), R) := hM.w6 (by omega)
            obtain ⟨g9, hg9⟩ : ∃ g9, g9 = ur_u g8 (208 + 6) (5 + zP z) (lN (wN 27 ws)) := ⟨_, rfl⟩
            rw [← hg9] at w6'
            have a2 : ur_aI (s, f8, g9, R) (208 + 2) 0 (5 : Int32) = some (f8 (208 + 2) 5) := hM.a2 (j := 5) (by decide)
            have e2 : f8 (208 + 2) 5 = nI (zP z) := l8.1.2.2
            have w2' : ur_wI (s, f8, g9, R) (208 + 2) 0 (5 : Int32) (nI (zP z + 1)) = some (s, ur_u f8 (208 + 2) 5 (nI (zP z + 1)), g9, R) := hM.w2 (j := 5) (by decide)
            obtain ⟨f9, hf9⟩ : ∃ f9, f9 = ur_u f8 (208 + 2) 5 (nI (zP z + 1)) := ⟨_, rfl⟩
            rw [← hf9] at w2'
            have t9 : eqT (fun a k => a = 210 ∧ k = 5) f8 f9 := by rw [hf9]; exact eqT_u ⟨rfl, rfl⟩
            have tg9 : eqL (fun a k => a = 214 ∧ k = 5 + zP z) g8 g9 := by rw [hg9]; exact eqL_u ⟨rfl, rfl⟩
            have s9 : mS f9 g9 q (enT q (enT q (enT q (enT q (enT q j))))) := r2.fr t9 tg9 (fun k _ _ y => by omega) (fun k y => by omega) (by omega)
            have l9 : mLn f9 g9 (addP z ws kk (nmT q (enT q (enT q j))) kr) := by
              obtain ⟨⟨u1, u2, u3⟩, u4, u5⟩ := l8
              refine ⟨⟨by rw [t9 _ _ (by omega)]; exact u1, by rw [t9 _ _ (by omega)]; exact u2, by rw [hf9]; exact ur_us⟩, fun r hr => by rw [tg9 _ _ (by omega), t9 _ _ (by omega), t9 _ _ (by omega)]; exact u4 r hr, fun p hp => ?_⟩
              have hp' : p < zP z + 1 := hp
              show _ = lN (wN 27 (upA (zPn z) (zP z) ws p)) ∧ _ = nI (upA (zKi z) (zP z) kk p) ∧ _ = nI (upA (zAg z) (zP z) (nmT q (enT q (enT q j))) p) ∧ _ = nI (upA (zHm z) (zP z) kr p)
              rw [t9 _ _ (by omega), t9 _ _ (by omega), t9 _ _ (by omega)]
              by_cases e : p = zP z
              · rw [e, upA_s, upA_s, upA_s, upA_s, hg9]
                exact ⟨ur_usg, (keep 215 (Or.inl rfl)).trans e74, (keep 216 (Or.inr rfl)).trans e84, e98⟩
              · rw [upA_n e, upA_n e, upA_n e, upA_n e, tg9 _ _ (by omega)]
                exact u5 p (by omega)
            obtain ⟨v, fe, ge, z1, z2, z3, z4, z5⟩ := m_fin (d := d) hM s9 l9
            refine ⟨v, fe, ge, e_X10_readsPerson_101 _ _ _ _ _ _ _ ?_, z3, ((t7.trans (r3.mono TF2_Ma)).trans (t9.mono (fun a k y => by unfold TMa; omega))).trans z4, ((tg5.trans (r4.mono GF2_Ma)).trans (tg9.mono (fun a k y => by unfold GMa; omega))).trans z5⟩
            simp only [w7, Option.bind_some, hM.r15, a7, e7, k0, cond_true, a1, w1, d10, hM.r16, hM.I, w3, w8, wi, x1, o1, hM.r12, o7, nb, a4, h4, le0, decide_eq_true (show zHo z kr ≤ 0 by omega), hM.r17, w9, r1, hM.r14, w6', hM.r10, a2, e2, nI_1, w2', z1, z2]
        · rw [if_pos er]
          obtain ⟨o1, o2⟩ := n1 er
          refine ⟨0, f6, g5, e_X10_readsPerson_101 _ _ _ _ _ _ _ ?_, ⟨rfl, o2⟩, t6, tg5⟩
          simp only [w7, Option.bind_some, hM.r15, a7, e7, k0, cond_true, a1, w1, d10, hM.r16, hM.I, w3, w8, wi, x1, o1, d00, cond_false]
      · rw [if_pos k106]
        have wi := wdF (d := d + 2) hM s4 (k := 6) (x := 257) (by decide) (by decide +kernel) k106
        have fl := m_fl (d := d + 2) hM s4 (k := 1) (v := 1) rfl
        refine ⟨0, ur_u f4 208 9 (nI (1 + 16 * bgT q (enT q (enT q (enT q j))))), g3, e_X10_readsPerson_101 _ _ _ _ _ _ _ ?_, ⟨rfl, ur_us⟩, t4.u (Or.inl ⟨rfl, Or.inl ⟨by decide, by decide⟩⟩), tg3⟩
        simp only [w7, Option.bind_some, hM.r15, a7, e7, k0, cond_true, a1, w1, d10, hM.r16, hM.I, w3, w8, wi, d00, cond_false, fl]
        rfl
    · rw [if_pos en]
      obtain ⟨f3, g3, w1, w2, w3, w4⟩ := p3 en
      refine ⟨0, f3, g3, e_X10_readsPerson_101 _ _ _ _ _ _ _ ?_, ⟨rfl, w2⟩, t2.trans (w3.mono TF2_Ma), tg2.trans (w4.mono GF2_Ma)⟩
      simp only [w7, Option.bind_some, hM.r15, a7, e7, k0, cond_true, a1, w1, d00, cond_false]
  · rw [if_pos k105]
    refine ⟨0, ur_u f2 208 9 (nI (1 + 16 * bgT q (enT q j))), g2, e_X10_readsPerson_101 _ _ _ _ _ _ _ ?_, ⟨rfl, ur_us⟩, t2.u (Or.inl ⟨rfl, Or.inl ⟨by decide, by decide⟩⟩), tg2⟩
    simp only [w7, Option.bind_some, hM.r15, a7, e7, k0, cond_true, a1, p1 k105, d00, cond_false]
theorem m_pers (hM : oModel s R 208) (hs : mS f g q i) (h : mLn f g z) (hz : zW z) : ∃ v f' g', ur_call ur_G (d + 4) 165 [.ref 208] (s, f, g, R) = some (v, (s, f', g', R)) ∧ mSR f' g' q (pCl q (pPers q z i)) v ∧ eqT TMa f f' ∧ eqL GMa g g' := by
  have h5 := hz.1.2.1
  have a2 : ur_aI (s, f, g, R) (208 + 2) 0 (5 : Int32) = some (f (208 + 2) 5) := hM.a2 (j := 5) (by decide)
  have e3 : f (208 + 2) 5 = nI (zP z) := h.1.2.2
  have n8 : (5 : Int32) + nI (zP z) = nI (5 + zP z) := nI_add 5 (zP z)
  rw [pPers_eq]
  by_cases hN : 5 ≤ zP z
  · rw [if_pos hN]
    have dn : decide (nI (5 + zP z) ≠ (10 : Int32)) = false := decide_eq_false (fun y => y (by rw [show 5 + zP z = 10 by omega]; rfl))
    have fl := m_fl (d := d + 2) hM hs (k := 5) (v := 5) rfl
    refine ⟨0, ur_u f 208 9 (nI (5 + 16 * bgT q i)), g, ur_cl hM.rcv rfl (e_X10_readsPerson_0 _ _ ?_), ⟨rfl, ur_us⟩, eqT_u (Or.inl ⟨rfl, Or.inl ⟨by decide, by decide⟩⟩), eqL.refl⟩
    simp only [hM.r10, Option.bind_some, a2, e3, n8, dn, cond_false, fl]
    rfl
  · rw [if_neg hN]
    have dn : decide (nI (5 + zP z) ≠ (10 : Int32)) = true := decide_eq_true (fun e => by
      have := (nI_eq (b := 10) (by omega) (by decide)).mp e
      omega)
    obtain ⟨f1, g1, a1, b1, c1, c2⟩ := m_nx (d := d + 1) hM hs
    have l1 := h.tp c1 c2
    obtain ⟨n1, n2⟩ := m_new (d := d) hM b1 l1 hz
    by_cases e0 : pNew q z (enT q i) = 0
    · rw [if_neg (fun y => y e0)]
      obtain ⟨f2, g2, o1, o2, o3, o4, o5, o6, k3⟩ := n2 e0
      have t : eqT TMa f f2 := (c1.mono TF2_Ma).trans o5
      have tg : eqL GMa g g2 := (c2.mono GF2_Ma).trans o6
      have wt : ∀ k x, k < 20 → x = lN (wN 27 (kwl.getD k [])) → ur_call ur_G (d + 3) 146 [.ref 208, .long x] (s, f2, g2, R) = some (bif decide (kdT q (enT q (enT q i)) = 100 + k) then 1 else 0, (s, f2, g2, R)) := fun k x h1 h2 => by
        by_cases e : kdT q (enT q (enT q i)) = 100 + k
        · rw [decide_eq_true e]; exact wdT (d := d + 2) hM o2 h1 h2 e
        · rw [decide_eq_false e]; exact wdF (d := d + 2) hM o2 h1 h2 e
      have x13 := wt 13 4137608 (by decide) (by decide +kernel)
      have x14 := wt 14 459437 (by decide) (by decide +kernel)
      have x15 := wt 15 1758676 (by decide) (by decide +kernel)
      have x16 := wt 16 287991491 (by decide) (by decide +kernel)
      by_cases ek : kdT q (enT q (enT q i)) < 113 ∨ 116 < kdT q (enT q (enT q i))
      · rw [if_pos ek]
        rw [decide_eq_false (show ¬ kdT q (enT q (enT q i)) = 100 + 13 by omega), cond_false] at x13
        rw [decide_eq_false (show ¬ kdT q (enT q (enT q i)) = 100 + 14 by omega), cond_false] at x14
        rw [decide_eq_false (show ¬ kdT q (enT q (enT q i)) = 100 + 15 by omega), cond_false] at x15
        rw [decide_eq_false (show ¬ kdT q (enT q (enT q i)) = 100 + 16 by omega), cond_false] at x16
        have w7 : ur_wI (s, f2, g2, R) (208 + 7) 0 (nI (5 + zP z)) (-1) = some (s, ur_u f2 (208 + 7) (5 + zP z) (-1), g2, R) := hM.w7 (by omega)
        have a7 : ur_aI (s, ur_u f2 (208 + 7) (5 + zP z) (-1), g2, R) (208 + 7) 0 (nI (5 + zP z)) = some (ur_u f2 (208 + 7) (5 + zP z) (-1) (208 + 7) (5 + zP z)) := hM.a7 (by omega)
        have s3 : mS (ur_u f2 (208 + 7) (5 + zP z) (-1)) g2 q (enT q (enT q i)) := o2.up (by decide)
        have fl := m_fl (d := d + 2) hM s3 (k := 1) (v := 1) rfl
        refine ⟨0, ur_u (ur_u f2 (208 + 7) (5 + zP z) (-1)) 208 9 (nI (1 + 16 * bgT q (enT q (enT q i)))), g2, ur_cl hM.rcv rfl (e_X10_readsPerson_0 _ _ ?_), ⟨rfl, ur_us⟩, (t.u (by unfold TMa; omega)).u (Or.inl ⟨rfl, Or.inl ⟨by decide, by decide⟩⟩), tg⟩
        simp only [hM.r10, Option.bind_some, a2, e3, n8, dn, cond_true, a1, o1, d10, hM.L, o4, hM.r15, x13, e00, decide_true, x14, x15, x16]
        refine e_X10_readsPerson_101 _ _ _ _ _ _ _ ?_
        simp only [w7, Option.bind_some, hM.r15, a7, ur_us, show decide ((0 : Int32) ≤ -1) = false from by decide, cond_false, fl]
        rfl
      · rw [if_neg ek]
        obtain ⟨v, f3, g3, v1, v2, v3, v4⟩ := m_p101 (d := d) (kk := kdT q (enT q (enT q i)) - 113) (ws := wlT q (enT q i)) hM o2 o3 hz (by omega) (by omega)
        refine ⟨v, f3, g3, ur_cl hM.rcv rfl (e_X10_readsPerson_0 _ _ ?_), v2, t.trans v3, tg.trans v4⟩
        simp only [hM.r10, Option.bind_some, a2, e3, n8, dn, cond_true, a1, o1, d10, hM.L, o4, hM.r15, x13]
        by_cases y13 : kdT q (enT q (enT q i)) = 113
        · rw [decide_eq_true (show kdT q (enT q (enT q i)) = 100 + 13 from y13), cond_true, e10, cond_false]
          rw [y13] at v1
          exact v1
        · rw [decide_eq_false (show ¬ kdT q (enT q (enT q i)) = 100 + 13 from y13), cond_false, e00, cond_true, x14, Option.bind_some]
          by_cases y14 : kdT q (enT q (enT q i)) = 114
          · simp only [decide_eq_true (show kdT q (enT q (enT q i)) = 100 + 14 from y14), cond_true, e10, cond_false]
            rw [y14] at v1
            exact v1
          · simp only [decide_eq_false (show ¬ kdT q (enT q (enT q i)) = 100 + 14 from y14), cond_false, e00, decide_true, cond_true, x15, Option.bind_some]
            by_cases y15 : kdT q (enT q (enT q i)) = 115
            · simp only [decide_eq_true (show kdT q (enT q (enT q i)) = 100 + 15 from y15), cond_true, e10, cond_false]
              rw [y15] at v1
              exact v1
            · have y16 : kdT q (enT q (enT q i)) = 116 := by omega
              simp only [decide_eq_false (show ¬ kdT q (enT q (enT q i)) = 100 + 15 from y15), cond_false, e00, decide_true, cond_true, x16, Option.bind_some, decide_eq_true (show kdT q (enT q (enT q i)) = 100 + 16 from y16), e10]
              rw [y16] at v1
              exact v1
    · rw [if_pos e0]
      refine ⟨0, ur_u f1 208 9 (nI (pNew q z (enT q i))), g1, ur_cl hM.rcv rfl (e_X10_readsPerson_0 _ _ ?_), ⟨rfl, ur_us⟩, (c1.mono TF2_Ma).u (Or.inl ⟨rfl, Or.inl ⟨by decide, by decide⟩⟩), c2.mono GF2_Ma⟩
      simp only [hM.r10, Option.bind_some, a2, e3, n8, dn, cond_true, a1, n1 e0, d00, cond_false]
end URLN

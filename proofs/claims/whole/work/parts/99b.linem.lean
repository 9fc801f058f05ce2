/-! THE REFERENCE READS AN EVENING: the whole -/
def mEv (f : Nat → Nat → Int32) (o : Nat ⊕ List uL3) (v : Int32) : Prop := match o with
  | .inl F => v = nI F
  | .inr ls => v = 0 ∧ mSc f 0 ls
def TDz : Nat → Nat → Prop := fun a k => (a = 208 ∧ ((4 ≤ k ∧ k ≤ 9) ∨ k = 34)) ∨ (a = 233 ∧ (k = 5 ∨ k = 0)) ∨ (234 ≤ a ∧ a ≤ 236 ∧ (200 ≤ k ∨ k < 40))
def evK (o : Nat ⊕ List uL3) : Bool := match o with
  | .inl _ => false
  | .inr _ => true
section URLMf
variable {s : List (Nat ⊕ (Nat × Nat))} {f f' : Nat → Nat → Int32} {g g' : Nat → Nat → Int64} {R : Nat → Nat → Option Nat} {d i j k p r N P n : Nat} {q : Nat × (Nat → Nat)} {rn pn : Nat → List Nat} {ls : List uL3} {x : uL3}
theorem m_line (hM : oModel s R 208) (hs : mS f g q i) (h8 : N ≤ 8) (h0 : f 210 0 = nI N) (hn : ∀ r, r < N → okW (rn r) ∧ g 211 r = lN (wN 27 (rn r))) (h5 : P ≤ 5) (h2 : f 210 2 = nI P) (hm : ∀ r, r < P → okW (pn r) ∧ g 214 r = lN (wN 27 (pn r))) (h : mSc f 5 ls) (hn40 : ls.length ≤ 40) : ∃ v f' g', ur_call ur_G (d + 4) 173 [.ref 208] (s, f, g, R) = some (v, (s, f', g', R)) ∧ mL f' g' q ls (pL1 q rn N pn P ls.length i) v ∧ eqT (TDn ls.length) f f' ∧ eqL GF2 g g' := by
  have hkl := hs.kl
  have f1 := m_fl (d := d + 2) hM hs (k := 1) (v := 1) rfl
  have f5 := m_fl (d := d + 2) hM hs (k := 5) (v := 5) rfl
  have a25 : ∀ (f : Nat → Nat → Int32) (g : Nat → Nat → Int64), f 233 5 = nI ls.length → ur_aI (s, f, g, R) (208 + 25) 0 (5 : Int32) = some (nI ls.length) := fun f g hf => (hM.a25 (j := 5) (by decide)).trans (congrArg some hf)
  have k40 : decide (nI ls.length ≠ (40 : Int32)) = decide (ls.length ≠ 40) := by
    have := d_eq (a := ls.length) (b := 40) (by omega) (by decide)
    by_cases e : ls.length = 40
    · rw [e]; rfl
    · rw [decide_eq_true e]
      rw [decide_eq_false e] at this
      exact decide_eq_true (of_decide_eq_false this)
  unfold pL1
  by_cases e1 : kdT q i < 108 ∨ 112 < kdT q i
  · rw [if_pos e1]
    refine ⟨0, _, g, (m_w5 (d := d) hM hs).2 e1 (e_X10_readsLine_71 _ _ _ ?_), ⟨rfl, ur_us⟩, eqT_u (Or.inl ⟨rfl, by omega⟩), eqL.refl⟩
    simp only [show decide ((0 : Int32) ≤ -1) = false from by decide, cond_false, f1, Option.bind_some]
    rfl
  · rw [if_neg e1]
    obtain ⟨k, hk⟩ : ∃ k, kdT q i = 108 + k := ⟨kdT q i - 108, by omega⟩
    have hk5 : k < 5 := by omega
    have gk : decide ((0 : Int32) ≤ nI k) = true := ge0 (by omega)
    by_cases e2 : 40 ≤ ls.length
    · rw [if_pos e2]
      refine ⟨0, _, g, (m_w5 (d := d) hM hs).1 k hk5 hk (e_X10_readsLine_71 _ _ _ ?_), ⟨rfl, ur_us⟩, eqT_u (Or.inl ⟨rfl, by omega⟩), eqL.refl⟩
      simp only [gk, cond_true, hM.r36, Option.bind_some, a25 f g h.1, k40, decide_eq_false (show ¬ ls.length ≠ 40 by omega), cond_false, f5]
      rfl
    · rw [if_neg e2]
      have hl : ls.length < 40 := by omega
      have ek : kdT q i - 108 = k := by omega
      rw [ek]
      obtain ⟨f2, g2, v1, v2, v3, v4⟩ := m_nx (d := d + 1) hM hs
      obtain ⟨f3, hf3⟩ : ∃ f3, f3 = ur_u f2 234 (200 + ls.length) (nI k) := ⟨_, rfl⟩
      have t3 : eqT (fun a j => a = 234 ∧ j = 200 + ls.length) f2 f3 := by rw [hf3]; exact eqT_u ⟨rfl, rfl⟩
      have s3 : mS f3 g2 q (enT q i) := v2.fr t3 (eqL.refl (T := fun _ _ => False)) (fun k h1 h2 z => by omega) (fun k z => by omega) (fun z => z)
      have tt3 : eqT (TDn ls.length) f f3 := (v3.mono TF2_Dn).trans (t3.mono (fun a k z => by unfold TDn; omega))
      have h35 : f2 233 5 = nI ls.length := by rw [v3 _ _ (by unfold TF2; omega)]; exact h.1
      have m3 : mSc f3 5 ls := (h.fr v3 (by unfold TF2; omega) (fun a i h1 h2 hi => by unfold TF2; omega)).fr t3 (by omega) (fun a i h1 h2 hi => by omega)
      have r1 : f3 234 (200 + ls.length) = nI k := by rw [hf3]; exact ur_us
      have h03 : f3 210 0 = nI N := by rw [tt3 _ _ (by unfold TDn; omega)]; exact h0
      have h23 : f3 210 2 = nI P := by rw [tt3 _ _ (by unfold TDn; omega)]; exact h2
      have hn3 : ∀ r, r < N → okW (rn r) ∧ g2 211 r = lN (wN 27 (rn r)) := fun r hr => ⟨(hn r hr).1, by rw [v4 _ _ (by unfold GF2; omega)]; exact (hn r hr).2⟩
      have hm3 : ∀ r, r < P → okW (pn r) ∧ g2 214 r = lN (wN 27 (pn r)) := fun r hr => ⟨(hm r hr).1, by rw [v4 _ _ (by unfold GF2; omega)]; exact (hm r hr).2⟩
      have w26 : ur_wI (s, f2, g2, R) (208 + 26) 0 (nI (200 + ls.length)) (nI k) = some (s, f3, g2, R) := by rw [hf3]; exact hM.w26 (by omega)
      have e200 : (200 : Int32) + nI ls.length = nI (200 + ls.length) := nI_add 200 ls.length
      have k3 : decide ((3 : Int32) ≤ nI k) = decide (3 ≤ k) := d_le (a := 3) (by decide) (by omega)
      by_cases e3 : 111 ≤ kdT q i
      · rw [if_pos e3]
        obtain ⟨v, f4, g4, b1, b2, b3, b4⟩ := m_L2 (d := d) (k := k) (p := 0) hM s3 h8 h03 hn3 m3 hl hk5 r1 (fun y => absurd y (by omega))
        refine ⟨v, f4, g4, (m_w5 (d := d) hM hs).1 k hk5 hk (e_X10_readsLine_71 _ _ _ ?_), b2, tt3.trans b3, v4.trans b4⟩
        simp only [gk, cond_true, hM.r36, Option.bind_some, a25 f g h.1, k40, decide_eq_true (show ls.length ≠ 40 by omega), v1, a25 f2 g2 h35, hM.r37, e200, w26, k3, decide_eq_true (show 3 ≤ k by omega)]
        exact b1
      · rw [if_neg e3]
        have kp := m_isKept (d := d + 2) hM s3
        have ff1 := m_fl (d := d + 2) hM s3 (k := 1) (v := 1) rfl
        by_cases k33 : kdT q (enT q i) = 3
        · rw [decide_eq_true k33] at kp
          have hw : isW (kdT q (enT q i)) := Or.inl k33
          have n1 := m_pNamed (d := d + 2) (ro := 0) (rn := pn) hM (Nat.zero_le 1) h5 h23 (fun r hr => ⟨by rw [show 5 * 0 + r = r by omega]; exact (hm3 r hr).2, (hm3 r hr).1⟩) (s3.w hw) (tk_w s3.le hw).1 (e := 0) rfl
          by_cases er : fsP (fun r => decide (pn r = wlT q (enT q i))) P 0 = -1
          · have e : pNm q pn P (enT q i) = 2 + 16 * bgT q (enT q i) := by
              unfold pNm
              rw [if_neg (fun z => z k33), if_pos er]
            rw [if_pos (by omega), e]
            rw [er] at n1
            have w27 : ur_wI (s, f3, g2, R) (208 + 27) 0 (nI (200 + ls.length)) (-1) = some (s, ur_u f3 (208 + 27) (200 + ls.length) (-1), g2, R) := hM.w27 (by omega)
            have a27 : ur_aI (s, ur_u f3 (208 + 27) (200 + ls.length) (-1), g2, R) (208 + 27) 0 (nI (200 + ls.length)) = some (-1) := (hM.a27 (by omega)).trans (congrArg some ur_us)
            have t4 : eqT (fun a j => a = 235 ∧ j = 200 + ls.length) f3 (ur_u f3 (208 + 27) (200 + ls.length) (-1)) := eqT_u ⟨rfl, rfl⟩
            have s4 : mS (ur_u f3 (208 + 27) (200 + ls.length) (-1)) g2 q (enT q i) := s3.fr t4 (eqL.refl (T := fun _ _ => False)) (fun k h1 h2 z => by omega) (fun k z => by omega) (fun z => z)
            have ff2 := m_fl (d := d + 2) hM s4 (k := 2) (v := 2) rfl
            refine ⟨0, _, g2, (m_w5 (d := d) hM hs).1 k hk5 hk (e_X10_readsLine_71 _ _ _ ?_), ⟨rfl, ur_us⟩, (tt3.trans (t4.mono (fun a k z => by unfold TDn; omega))).u (Or.inl ⟨rfl, by omega⟩), v4⟩
            simp only [gk, cond_true, hM.r36, Option.bind_some, a25 f g h.1, k40, decide_eq_true (show ls.length ≠ 40 by omega), v1, a25 f2 g2 h35, hM.r37, e200, w26, k3, decide_eq_false (show ¬ 3 ≤ k by omega), cond_false, kp, show ur_b (!true) = (0 : Int32) from rfl, e00, decide_true, hM.r38, n1, w27, a27, show decide ((0 : Int32) ≤ -1) = false from by decide, ff2]
            rfl
          · have e : pNm q pn P (enT q i) = 0 := by
              unfold pNm
              rw [if_neg (fun z => z k33), if_neg er]
            rw [if_neg (fun z => z e)]
            obtain ⟨m, m1, m2, mm⟩ := fs_in (N := P) (by omega) er
            rw [m2] at n1
            rw [mm]
            obtain ⟨f4, hf4⟩ : ∃ f4, f4 = ur_u f3 (208 + 27) (200 + ls.length) (nI m) := ⟨_, rfl⟩
            have w27 : ur_wI (s, f3, g2, R) (208 + 27) 0 (nI (200 + ls.length)) (nI m) = some (s, f4, g2, R) := by rw [hf4]; exact hM.w27 (by omega)
            have a27 : ur_aI (s, f4, g2, R) (208 + 27) 0 (nI (200 + ls.length)) = some (nI m) := (hM.a27 (by omega)).trans (congrArg some (by rw [hf4]; exact ur_us))
            have t4 : eqT (fun a j => a = 235 ∧ j = 200 + ls.length) f3 f4 := by rw [hf4]; exact eqT_u ⟨rfl, rfl⟩
            have s4 : mS f4 g2 q (enT q i) := s3.fr t4 (eqL.refl (T := fun _ _ => False)) (fun k h1 h2 z => by omega) (fun k z => by omega) (fun z => z)
            obtain ⟨f5', g5, u1, u2, u3, u4⟩ := m_nx (d := d + 1) hM s4
            have t5 : eqT (TDn ls.length) f3 f5' := (t4.mono (fun a k z => by unfold TDn; omega)).trans (u3.mono TF2_Dn)
            have m5 : mSc f5' 5 ls := (m3.fr t4 (by omega) (fun a i h1 h2 hi => by omega)).fr u3 (by unfold TF2; omega) (fun a i h1 h2 hi => by unfold TF2; omega)
            obtain ⟨v, f6, g6, b1, b2, b3, b4⟩ := m_L2 (d := d) (k := k) (p := m) hM u2 h8 (by rw [t5 _ _ (by unfold TDn; omega)]; exact h03) (fun r hr => ⟨(hn r hr).1, by rw [u4 _ _ (by unfold GF2; omega)]; exact (hn3 r hr).2⟩) m5 hl hk5 (by rw [u3 _ _ (by unfold TF2; omega), t4 _ _ (by omega)]; exact r1) (fun _ => by rw [u3 _ _ (by unfold TF2; omega), hf4]; exact ur_us)
            refine ⟨v, f6, g6, (m_w5 (d := d) hM hs).1 k hk5 hk (e_X10_readsLine_71 _ _ _ ?_), b2, (tt3.trans t5).trans b3, (v4.trans u4).trans b4⟩
            simp only [gk, cond_true, hM.r36, Option.bind_some, a25 f g h.1, k40, decide_eq_true (show ls.length ≠ 40 by omega), v1, a25 f2 g2 h35, hM.r37, e200, w26, k3, decide_eq_false (show ¬ 3 ≤ k by omega), cond_false, kp, show ur_b (!true) = (0 : Int32) from rfl, e00, decide_true, hM.r38, n1, w27, a27, ge0 (show m < 2 ^ 31 by omega), u1]
            exact b1
        · rw [decide_eq_false k33] at kp
          have e : pNm q pn P (enT q i) = 1 + 16 * bgT q (enT q i) := by
            unfold pNm
            rw [if_pos k33]
          rw [if_pos (by omega), e]
          refine ⟨0, _, g2, (m_w5 (d := d) hM hs).1 k hk5 hk (e_X10_readsLine_71 _ _ _ ?_), ⟨rfl, ur_us⟩, tt3.u (Or.inl ⟨rfl, by omega⟩), v4⟩
          simp only [gk, cond_true, hM.r36, Option.bind_some, a25 f g h.1, k40, decide_eq_true (show ls.length ≠ 40 by omega), v1, a25 f2 g2 h35, hM.r37, e200, w26, k3, decide_eq_false (show ¬ 3 ≤ k by omega), cond_false, kp, show ur_b (!false) = (1 : Int32) from rfl, e10, ff1]
          rfl
theorem m_ev (hM : oModel s R 208) (h8 : N ≤ 8) (h5 : P ≤ 5) : ∀ (n i : Nat) (ls : List uL3) (f : Nat → Nat → Int32) (g : Nat → Nat → Int64), q.1 - i < n → mS f g q i → f 210 0 = nI N → (∀ r, r < N → okW (rn r) ∧ g 211 r = lN (wN 27 (rn r))) → f 210 2 = nI P → (∀ r, r < P → okW (pn r) ∧ g 214 r = lN (wN 27 (pn r))) → mSc f 5 ls → ls.length ≤ 40 → ∃ v f' g', ur_at ur_G (d + 4) 178 (16, [some (.ref 208)], [], (s, f, g, R)) = some (v, (s, f', g', R)) ∧ mEv f' (pEv q rn N pn P n i ls) v ∧ (evK (pEv q rn N pn P n i ls) = false → eqT TDa f f') ∧ eqT TDz f f' ∧ eqL GF2 g g'
  | 0, _, _, _, _, hn, _, _, _, _, _, _, _ => absurd hn (Nat.not_lt_zero _)
  | n + 1, i, ls, f, g, hn, hs, h0, hrn, h2, hpn, h, h40 => by
    have hi := hs.le
    show ∃ v f' g', _ ∧ mEv f' (if kdT q i = 1 then .inr ls else evB (pL1 q rn N pn P ls.length i) (fun x => pEv q rn N pn P n x.1 (ls ++ [x.2]))) v ∧ (evK (if kdT q i = 1 then .inr ls else evB (pL1 q rn N pn P ls.length i) (fun x => pEv q rn N pn P n x.1 (ls ++ [x.2]))) = false → _) ∧ _
    by_cases h1 : kdT q i = 1
    · rw [if_pos h1]
      obtain ⟨f1, a1, a2, a3, a4⟩ := m_laysLines (d := d + 3) (f := f) (g := g) (i := 5) (j := 0) hM (by decide) (by decide) (by decide)
      have a1' : ur_call ur_G (d + 4) 174 [.ref 208, .int (5 : Int32), .int (0 : Int32)] (s, f, g, R) = some (0, (s, f1, g, R)) := a1
      refine ⟨0, f1, g, e_X10_evening_16 _ _ ?_, ⟨rfl, ?_, fun i hi => ?_⟩, fun y => (by cases y), a4.mono (fun a k z => by unfold TDz; omega), eqL.refl⟩
      · simp only [hM.I, Option.bind_some, hs.tk, tk_0, decide_eq_true h1, cond_true, a1']
      · exact a2.trans h.1
      · obtain ⟨c1, c2, c3⟩ := h.2 i hi
        exact ⟨(a3 26 i (by decide) (by decide) (by omega)).trans c1, fun y => (a3 27 i (by decide) (by decide) (by omega)).trans (c2 y), fun y => (a3 28 i (by decide) (by decide) (by omega)).trans (c3 y)⟩
    · rw [if_neg h1]
      obtain ⟨v, f2, g2, b1, b2, b3, b4⟩ := m_line (d := d) (rn := rn) (pn := pn) hM hs h8 h0 hrn h5 h2 hpn h h40
      have ok := (pL1_ok (q := q) (rn := rn) (pn := pn) (n := ls.length) h8 h5 hi).1
      have dz : ∀ a k, TDn ls.length a k → TDz a k := fun a k z => by unfold TDn at z; unfold TDz; omega
      revert b2 ok
      cases pL1 q rn N pn P ls.length i with
      | inl F =>
        intro b2 _
        have b2' : v = 0 ∧ f2 208 9 = nI F := b2
        refine ⟨nI F, f2, g2, e_X10_evening_16 _ _ ?_, rfl, fun _ => b3.mono TDn_Da, b3.mono dz, b4⟩
        simp only [hM.I, Option.bind_some, hs.tk, tk_0, decide_eq_false h1, cond_false, b1, b2'.1, b2'.2, d00]
      | inr x =>
        intro b2 ok
        have b2' : v = 1 ∧ mS f2 g2 q x.1 ∧ mSc f2 5 (ls ++ [x.2]) := b2
        obtain ⟨o1, o2, o3, o4⟩ := ok x rfl
        have ll : (ls ++ [x.2]).length = ls.length + 1 := by simp
        obtain ⟨w, f3, g3, d1, d2, d5, d3, d4⟩ := m_ev hM h8 h5 n x.1 (ls ++ [x.2]) f2 g2 (by omega) b2'.2.1 (by rw [b3 _ _ (by unfold TDn; omega)]; exact h0) (fun r hr => ⟨(hrn r hr).1, by rw [b4 _ _ (by unfold GF2; omega)]; exact (hrn r hr).2⟩) (by rw [b3 _ _ (by unfold TDn; omega)]; exact h2) (fun r hr => ⟨(hpn r hr).1, by rw [b4 _ _ (by unfold GF2; omega)]; exact (hpn r hr).2⟩) b2'.2.2 (by omega)
        refine ⟨w, f3, g3, e_X10_evening_16 _ _ ?_, d2, fun y => (b3.mono TDn_Da).trans (d5 y), (b3.mono dz).trans d3, b4.trans d4⟩
        simp only [hM.I, Option.bind_some, hs.tk, tk_0, decide_eq_false h1, cond_false, b1, b2'.1, d10, cond_true]
        exact d1
def TEb : Nat → Nat → Prop := fun a k => (a = 208 ∧ k ≤ 34) ∨ (a = 233 ∧ k = 5) ∨ (234 ≤ a ∧ a ≤ 236 ∧ 200 ≤ k)
def TEc : Nat → Nat → Prop := fun a k => (a = 208 ∧ k ≤ 34) ∨ (a = 233 ∧ (k = 5 ∨ k = 0)) ∨ (234 ≤ a ∧ a ≤ 236 ∧ (200 ≤ k ∨ k < 40))
theorem m_even (hM : oModel s R 208) (h8 : N ≤ 8) (h5 : P ≤ 5) (h1 : tpC f 208 209 1 q) (hch : ∀ k, k < q.1 → q.2 k < 128) (h0 : f 210 0 = nI N) (hrn : ∀ r, r < N → okW (rn r) ∧ g 211 r = lN (wN 27 (rn r))) (h2 : f 210 2 = nI P) (hpn : ∀ r, r < P → okW (pn r) ∧ g 214 r = lN (wN 27 (pn r))) : ∃ v f' g', ur_call ur_G (d + 5) 178 [.ref 208] (s, f, g, R) = some (v, (s, f', g', R)) ∧ mEv f' (pEv q rn N pn P (q.1 + 1) 0 []) v ∧ (evK (pEv q rn N pn P (q.1 + 1) 0 []) = false → eqT TEb f f') ∧ eqT TEc f f' ∧ eqL GF2 g g' ∧ f' 208 1 = 0 := by
  obtain ⟨f2, hf2⟩ : ∃ f2, f2 = ur_u (ur_u f 208 0 0) (208 + 25) 5 0 := ⟨_, rfl⟩
  obtain ⟨f3, hf3⟩ : ∃ f3, f3 = ur_u (ur_u (ur_u f2 208 3 (f2 208 1)) 208 1 0) 208 4 0 := ⟨_, rfl⟩
  have t2 : eqT (fun a k => (a = 208 ∧ k = 0) ∨ (a = 233 ∧ k = 5)) f f2 := by
    rw [hf2]
    exact (eqT_u (by omega)).u (by omega)
  have t3 : eqT (fun a k => a = 208 ∧ (k = 1 ∨ k = 3 ∨ k = 4)) f2 f3 := by
    rw [hf3]
    exact ((eqT_u (by omega)).u (by omega)).u (by omega)
  have e1 : f2 208 1 = nI q.1 := by rw [t2 _ _ (by omega)]; exact h1.1
  have ht3 : tpM f3 q := ⟨by rw [hf3, ur_un (by decide), ur_un (by decide), ur_us, e1], h1.2.1, fun k hk => by rw [t3 _ _ (by omega), t2 _ _ (by omega)]; exact h1.2.2 k hk, hch⟩
  have e4 : f3 208 4 = nI 0 := by rw [hf3]; exact ur_us
  obtain ⟨f4, w, c1, c2, c3⟩ := m_next (d := d + 1) (g := g) hM ht3 (Nat.zero_le q.1) e4
  have hs : mS f4 (ur_u g 208 7 w) q 0 := ⟨ht3.fr c3 TBx_d, Nat.zero_le _, c2⟩
  have tg : eqL GF2 g (ur_u g 208 7 w) := eqL_u ⟨rfl, rfl⟩
  have old : ∀ a k, a ≠ 208 → (a ≠ 233 ∨ k ≠ 5) → f4 a k = f a k := fun a k h1 h2 => by
    rw [c3 _ _ (by unfold TBx; omega), t3 _ _ (by omega), t2 _ _ (by omega)]
  have m4 : mSc f4 5 [] := ⟨by rw [c3 _ _ (by unfold TBx; omega), t3 _ _ (by omega), hf2]; exact ur_us, fun i hi => absurd hi (Nat.not_lt_zero i)⟩
  obtain ⟨v, f5, g5, b1, b2, b5, b3, b4⟩ := m_ev (d := d) (q := q) (rn := rn) (pn := pn) hM h8 h5 (q.1 + 1) 0 [] f4 (ur_u g 208 7 w) (by omega) hs (by rw [old _ _ (by decide) (by decide)]; exact h0) (fun r hr => ⟨(hrn r hr).1, by rw [tg _ _ (by unfold GF2; omega)]; exact (hrn r hr).2⟩) (by rw [old _ _ (by decide) (by decide)]; exact h2) (fun r hr => ⟨(hpn r hr).1, by rw [tg _ _ (by unfold GF2; omega)]; exact (hpn r hr).2⟩) m4 (Nat.zero_le _)
  have cb : ur_call ur_G (d + 4) 167 [.ref 208] (s, f2, g, R) = some (0, (s, f4, ur_u g 208 7 w, R)) := by
    refine ur_cl hM.rcv rfl (e_X10_begins_0 _ _ ?_)
    simp only [hM.I, hM.pI, Option.bind_some, ← hf3, c1]
  have w25 : ∀ f : Nat → Nat → Int32, ur_wI (s, f, g, R) (208 + 25) 0 (5 : Int32) 0 = some (s, ur_u f (208 + 25) 5 0, g, R) := fun f => hM.w25 (j := 5) (by decide)
  have t4 : eqT (fun a k => (a = 208 ∧ k ≤ 34) ∨ (a = 233 ∧ k = 5)) f f4 := ((t2.mono (fun a k y => by omega)).trans (t3.mono (fun a k y => by omega))).trans (c3.mono (fun a k y => by unfold TBx at y; omega))
  refine ⟨v, f5, g5, ur_cl hM.rcv rfl (e_X10_evening_0 _ _ ?_), b2, fun y => (t4.mono (fun a k y => by unfold TEb; omega)).trans ((b5 y).mono (fun a k y => by unfold TDa at y; unfold TEb; omega)), (t4.mono (fun a k y => by unfold TEc; omega)).trans (b3.mono (fun a k y => by unfold TDz at y; unfold TEc; omega)), tg.trans b4, ?_⟩
  · simp only [hM.pI, Option.bind_some, hM.r36, w25, ← hf2, cb]
    exact b1
  · rw [b3 _ _ (by unfold TDz; omega), c3 _ _ (by unfold TBx; omega), hf3, ur_un (by decide)]; exact ur_us
end URLMf

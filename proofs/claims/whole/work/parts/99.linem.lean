/-! THE REFERENCE READS AN EVENING -/
def mE (f : Nat → Nat → Int32) (g : Nat → Nat → Int64) (q : Nat × (Nat → Nat)) (o : Nat ⊕ (Nat × uL3)) (v : Int32) : Prop := match o with
  | .inl F => v = 0 ∧ f 208 9 = nI F
  | .inr x => v = 1 ∧ mS f g q x.1
def mL (f : Nat → Nat → Int32) (g : Nat → Nat → Int64) (q : Nat × (Nat → Nat)) (ls : List uL3) (o : Nat ⊕ (Nat × uL3)) (v : Int32) : Prop := match o with
  | .inl F => v = 0 ∧ f 208 9 = nI F
  | .inr x => v = 1 ∧ mS f g q x.1 ∧ mSc f 5 (ls ++ [x.2])
def TDn (n : Nat) : Nat → Nat → Prop := fun a k => (a = 208 ∧ ((4 ≤ k ∧ k ≤ 9) ∨ k = 34)) ∨ (a = 233 ∧ k = 5) ∨ (234 ≤ a ∧ a ≤ 236 ∧ k = 200 + n)
def TDa : Nat → Nat → Prop := fun a k => (a = 208 ∧ ((4 ≤ k ∧ k ≤ 9) ∨ k = 34)) ∨ (a = 233 ∧ k = 5) ∨ (234 ≤ a ∧ a ≤ 236 ∧ 200 ≤ k)
section URLMe
variable {s : List (Nat ⊕ (Nat × Nat))} {f f' : Nat → Nat → Int32} {g g' : Nat → Nat → Int64} {R : Nat → Nat → Option Nat} {d i j k p r N P n : Nat} {q : Nat × (Nat → Nat)} {rn pn : Nat → List Nat} {ls : List uL3} {x : uL3}
theorem TF2_Dn : ∀ a k, TF2 a k → TDn n a k := fun a k y => by unfold TF2 at y; unfold TDn; omega
theorem TDn_Da : ∀ a k, TDn n a k → TDa a k := fun a k y => by unfold TDn at y; unfold TDa; omega
theorem mSc.app (h : mSc f 5 ls) (t : eqT (TDn ls.length) f f') (h3 : f' 233 5 = nI (ls.length + 1)) (a1 : f' 234 (200 + ls.length) = nI x.1) (a2 : x.1 < 3 → f' 235 (200 + ls.length) = nI x.2.1) (a3 : (x.1 = 0 ∨ x.1 = 1 ∨ x.1 = 3) → f' 236 (200 + ls.length) = nI x.2.2) : mSc f' 5 (ls ++ [x]) := by
  have hl : (ls ++ [x]).length = ls.length + 1 := by simp
  refine ⟨by rw [hl]; exact h3, fun i hi => ?_⟩
  rw [hl] at hi
  by_cases e : i < ls.length
  · have e' : (ls ++ [x]).getD i (0, 0, 0) = ls.getD i (0, 0, 0) := by
      rw [List.getD_eq_getElem?_getD, List.getD_eq_getElem?_getD, List.getElem?_append_left e]
    rw [e', t 234 (40 * 5 + i) (by unfold TDn; omega), t 235 (40 * 5 + i) (by unfold TDn; omega), t 236 (40 * 5 + i) (by unfold TDn; omega)]
    exact h.2 i e
  · have ei : i = ls.length := by omega
    have e' : (ls ++ [x]).getD i (0, 0, 0) = x := by
      rw [List.getD_eq_getElem?_getD, ei, List.getElem?_append_right (Nat.le_refl _), Nat.sub_self]; rfl
    rw [e', ei]
    exact ⟨a1, a2, a3⟩
theorem mSc.fr {T : Nat → Nat → Prop} (h : mSc f 5 ls) (t : eqT T f f') (h1 : ¬ T 233 5) (h2 : ∀ a i, 234 ≤ a → a ≤ 236 → i < ls.length → ¬ T a (40 * 5 + i)) : mSc f' 5 ls := by
  refine ⟨by rw [t _ _ h1]; exact h.1, fun i hi => ?_⟩
  rw [t 234 (40 * 5 + i) (h2 _ _ (by decide) (by decide) hi), t 235 (40 * 5 + i) (h2 _ _ (by decide) (by decide) hi), t 236 (40 * 5 + i) (h2 _ _ (by decide) (by decide) hi)]
  exact h.2 i hi
theorem ge0 {m : Nat} (hm : m < 2 ^ 31) : decide ((0 : Int32) ≤ nI m) = true := (d_le (a := 0) (by decide) hm).trans (decide_eq_true (Nat.zero_le m))
theorem m_sR (hM : oModel s R 208) (hs : mS f g q i) (h8 : N ≤ 8) (h0 : f 210 0 = nI N) (hn : ∀ r, r < N → okW (rn r) ∧ g 211 r = lN (wN 27 (rn r))) : ∃ f', eqT (fun a k => a = 208 ∧ (k = 9 ∨ k = 34)) f f' ∧ (pNm q rn N i ≠ 0 → ur_call ur_G (d + 2) 162 [.ref 208, .int (0 : Int32)] (s, f, g, R) = some (0, (s, f', g, R)) ∧ f' 208 9 = nI (pNm q rn N i)) ∧ (pNm q rn N i = 0 → ur_call ur_G (d + 2) 162 [.ref 208, .int (0 : Int32)] (s, f, g, R) = some (1, (s, f', g, R)) ∧ mS f' g q i ∧ ∃ m, ix (fsP (fun r => decide (rn r = wlT q i)) N 0) = m ∧ f' 208 34 = nI m) := by
  have kp := m_isKept (d := d) hM hs
  have f1 := m_fl (d := d) hM hs (k := 1) (v := 1) rfl
  by_cases k3 : kdT q i = 3
  · rw [decide_eq_true k3] at kp
    have hw : isW (kdT q i) := Or.inl k3
    have n1 := m_rNamed (d := d) (ro := 0) (rn := rn) hM (Nat.zero_le 1) h8 h0 (fun r hr => ⟨by rw [show 8 * 0 + r = r by omega]; exact (hn r hr).2, (hn r hr).1⟩) (hs.w hw) (tk_w hs.le hw).1 (e := 0) rfl
    by_cases er : fsP (fun r => decide (rn r = wlT q i)) N 0 = -1
    · have e : pNm q rn N i = 2 + 16 * bgT q i := by
        unfold pNm
        rw [if_neg (fun z => z k3), if_pos er]
      rw [er] at n1
      have t1 : eqT (fun a k => a = 208 ∧ k = 34) f (ur_u f 208 34 (-1)) := eqT_u ⟨rfl, rfl⟩
      have hs1 : mS (ur_u f 208 34 (-1)) g q i := hs.fr t1 (eqL.refl (T := fun _ _ => False)) (fun k z1 z2 z => by omega) (fun k z => by omega) (fun z => z)
      have f2 := m_fl (d := d) hM hs1 (k := 2) (v := 2) rfl
      have t2 : eqT (fun a k => a = 208 ∧ k = 9) (ur_u f 208 34 (-1)) (ur_u (ur_u f 208 34 (-1)) 208 9 (nI (2 + 16 * bgT q i))) := eqT_u ⟨rfl, rfl⟩
      refine ⟨_, (t1.mono (fun a k z => by omega)).trans (t2.mono (fun a k z => by omega)), fun _ => ⟨ur_cl hM.rcv rfl (e_X10_needsRoom_0 _ _ _ ?_), by rw [ur_us, e]⟩, fun z => absurd z (by omega)⟩
      simp only [kp, Option.bind_some, show ur_b (!true) = (0 : Int32) from rfl, e00, decide_true, cond_true, n1, hM.pI, hM.I, ur_us, show decide ((0 : Int32) ≤ -1) = false from by decide, cond_false, f2]
    · have e : pNm q rn N i = 0 := by
        unfold pNm
        rw [if_neg (fun z => z k3), if_neg er]
      obtain ⟨m, m1, m2, m3⟩ := fs_in h8 er
      rw [m2] at n1
      have t1 : eqT (fun a k => a = 208 ∧ k = 34) f (ur_u f 208 34 (nI m)) := eqT_u ⟨rfl, rfl⟩
      have hs1 : mS (ur_u f 208 34 (nI m)) g q i := hs.fr t1 (eqL.refl (T := fun _ _ => False)) (fun k z1 z2 z => by omega) (fun k z => by omega) (fun z => z)
      refine ⟨_, t1.mono (fun a k z => by omega), fun z => absurd e z, fun _ => ⟨ur_cl hM.rcv rfl (e_X10_needsRoom_0 _ _ _ ?_), hs1, m, m3, ur_us⟩⟩
      simp only [kp, Option.bind_some, show ur_b (!true) = (0 : Int32) from rfl, e00, decide_true, cond_true, n1, hM.pI, hM.I, ur_us, ge0 (show m < 2 ^ 31 by omega)]
  · rw [decide_eq_false k3] at kp
    have e : pNm q rn N i = 1 + 16 * bgT q i := by
      unfold pNm
      rw [if_pos k3]
    have t2 : eqT (fun a k => a = 208 ∧ k = 9) f (ur_u f 208 9 (nI (1 + 16 * bgT q i))) := eqT_u ⟨rfl, rfl⟩
    refine ⟨_, t2.mono (fun a k z => by omega), fun _ => ⟨ur_cl hM.rcv rfl (e_X10_needsRoom_0 _ _ _ ?_), by rw [ur_us, e]⟩, fun z => absurd z (by omega)⟩
    simp only [kp, Option.bind_some, show ur_b (!false) = (1 : Int32) from rfl, e10, cond_false, f1]
    rfl
theorem m_tl (hM : oModel s R 208) (hs : mS f g q j) (h3 : f 233 5 = nI n) : ∃ v f' g', ((ur_fR (s, f, g, R) 208 10 36).bind fun a1 => ((ur_aI (s, f, g, R) a1 0 (5 : Int32)).bind fun v2 => ((ur_wI (s, f, g, R) a1 0 (5 : Int32) (v2 + (1 : Int32))).bind fun m3 => ((ur_call ur_G (d + 3) 160 [.ref 208] m3).bind fun q4 => (bif ur_fit 1 q4.1 then some (q4.1, q4.2) else none))))) = some (v, (s, f', g', R)) ∧ mE f' g' q (pEnd q k p r j) v ∧ f' 233 5 = nI (n + 1) ∧ eqT (fun a k => TF2 a k ∨ (a = 233 ∧ k = 5)) f f' ∧ eqL GF2 g g' := by
  have t1 : eqT (fun a k => a = 233 ∧ k = 5) f (ur_u f 233 5 (nI (n + 1))) := eqT_u ⟨rfl, rfl⟩
  have s1 : mS (ur_u f 233 5 (nI (n + 1))) g q j := hs.fr t1 (eqL.refl (T := fun _ _ => False)) (fun k h1 h2 z => by omega) (fun k z => by omega) (fun z => z)
  have t1' : eqT (fun a k => TF2 a k ∨ (a = 233 ∧ k = 5)) f (ur_u f 233 5 (nI (n + 1))) := t1.mono (fun a k z => Or.inr z)
  have a5 : ur_aI (s, f, g, R) (208 + 25) 0 (5 : Int32) = some (nI n) := (hM.a25 (j := 5) (by decide)).trans (congrArg some h3)
  have w5 : ur_wI (s, f, g, R) (208 + 25) 0 (5 : Int32) (nI (n + 1)) = some (s, ur_u f 233 5 (nI (n + 1)), g, R) := hM.w25 (j := 5) (by decide)
  obtain ⟨c1, c2⟩ := m_cls (d := d) hM s1
  unfold pEnd
  by_cases e : kdT q j = 59
  · rw [if_pos e]
    obtain ⟨f3, g3, b1, b2, b3, b4⟩ := c2 e
    refine ⟨1, f3, g3, ?_, ⟨rfl, b2⟩, by rw [b3 _ _ (by unfold TF2; omega), ur_us], t1'.trans (b3.mono (fun a k z => Or.inl z)), b4⟩
    simp only [hM.r36, Option.bind_some, a5, nI_1, w5, b1]
    rfl
  · rw [if_neg e]
    refine ⟨0, _, g, ?_, ⟨rfl, ur_us⟩, by rw [ur_ua (by decide), ur_us], t1'.u (Or.inl ⟨rfl, by decide, by decide⟩), eqL.refl⟩
    simp only [hM.r36, Option.bind_some, a5, nI_1, w5, c1 e]
    rfl
theorem m_L2 (hM : oModel s R 208) (hs : mS f g q j) (h8 : N ≤ 8) (h0 : f 210 0 = nI N) (hn : ∀ r, r < N → okW (rn r) ∧ g 211 r = lN (wN 27 (rn r))) (h : mSc f 5 ls) (hn40 : ls.length < 40) (hk : k < 5) (hr1 : f 234 (200 + ls.length) = nI k) (hr2 : k < 3 → f 235 (200 + ls.length) = nI p) : ∃ v f' g', ur_at ur_G (d + 3) 173 (169, [some (.ref 208), some (.int (nI k)), some (.int (nI (200 + ls.length)))], [], (s, f, g, R)) = some (v, (s, f', g', R)) ∧ mL f' g' q ls (pL2 q rn N k p j) v ∧ eqT (TDn ls.length) f f' ∧ eqL GF2 g g' := by
  have dk2 : decide (nI k = (2 : Int32)) = decide (k = 2) := d_eq (b := 2) (by omega) (by decide)
  have dk4 : decide (nI k = (4 : Int32)) = decide (k = 4) := d_eq (b := 4) (by omega) (by decide)
  unfold pL2
  by_cases e : k = 2 ∨ k = 4
  · rw [if_pos e]
    obtain ⟨v, f1, g1, b1, b2, b3, b4, b5⟩ := m_tl (d := d) (k := k) (p := p) (r := 0) hM hs h.1
    have tt : eqT (TDn ls.length) f f1 := b4.mono (fun a k z => by unfold TF2 at z; unfold TDn; omega)
    refine ⟨v, f1, g1, e_X10_readsLine_169 _ _ _ _ ?_, ?_, tt, b5⟩
    · by_cases e2 : k = 2
      · simp only [dk2, decide_eq_true e2, cond_true]; exact b1
      · simp only [dk2, decide_eq_false e2, cond_false, dk4, decide_eq_true (show k = 4 by omega), cond_true]; exact b1
    · have ok := (pEnd_ok (q := q) (k := k) (p := p) (r := 0) hs.le).1
      revert b2 ok
      cases pEnd q k p 0 j with
      | inl F => exact fun b2 _ => b2
      | inr x => exact fun b2 ok => ⟨b2.1, b2.2, (by
          obtain ⟨-, -, o3⟩ := ok x rfl
          rw [o3]
          refine h.app tt b3 ?_ (fun y => ?_) (fun y => absurd y (by show ¬ (k = 0 ∨ k = 1 ∨ k = 3); omega))
          · rw [b4 _ _ (by unfold TF2; omega)]; exact hr1
          · rw [b4 _ _ (by unfold TF2; omega)]; exact hr2 y)⟩
  · rw [if_neg e]
    obtain ⟨f1, y5, z1, z2⟩ := m_sR (d := d + 1) hM hs h8 h0 hn
    by_cases e2 : pNm q rn N j = 0
    · rw [if_neg (fun y => y e2)]
      obtain ⟨y1, y2, m, y3, y4⟩ := z2 e2
      rw [y3]
      have wr : ur_wI (s, f1, g, R) (208 + 28) 0 (nI (200 + ls.length)) (nI m) = some (s, ur_u f1 236 (200 + ls.length) (nI m), g, R) := hM.w28 (by omega)
      have t2 : eqT (fun a k => a = 236 ∧ k = 200 + ls.length) f1 (ur_u f1 236 (200 + ls.length) (nI m)) := eqT_u ⟨rfl, rfl⟩
      have s2 : mS (ur_u f1 236 (200 + ls.length) (nI m)) g q j := y2.fr t2 (eqL.refl (T := fun _ _ => False)) (fun k h1 h2 z => by omega) (fun k z => by omega) (fun z => z)
      obtain ⟨f3, g3, v1, v2, v3, v4⟩ := m_nx (d := d + 1) hM s2
      have h33 : f3 233 5 = nI ls.length := by rw [v3 _ _ (by unfold TF2; omega), t2 _ _ (by omega), y5 _ _ (by omega)]; exact h.1
      obtain ⟨v, f4, g4, b1, b2, b3, b4, b5⟩ := m_tl (d := d) (k := k) (p := p) (r := m) hM v2 h33
      have tt : eqT (TDn ls.length) f f4 := (((y5.mono (fun a k z => by unfold TDn; omega)).trans (t2.mono (fun a k z => by unfold TDn; omega))).trans (v3.mono TF2_Dn)).trans (b4.mono (fun a k z => by unfold TF2 at z; unfold TDn; omega))
      refine ⟨v, f4, g4, e_X10_readsLine_169 _ _ _ _ ?_, ?_, tt, v4.trans b5⟩
      · simp only [dk2, decide_eq_false (show ¬ k = 2 by omega), cond_false, dk4, decide_eq_false (show ¬ k = 4 by omega), y1, Option.bind_some, d10, cond_true, hM.r39, hM.I, y4, wr, v1]
        exact b1
      · have ok := (pEnd_ok (q := q) (k := k) (p := p) (r := m) (tk_next hs.le).1).1
        revert b2 ok
        cases pEnd q k p m (enT q j) with
        | inl F => exact fun b2 _ => b2
        | inr x => exact fun b2 ok => ⟨b2.1, b2.2, (by
            obtain ⟨-, -, o3⟩ := ok x rfl
            rw [o3]
            refine h.app tt b3 ?_ (fun y => ?_) (fun y => ?_)
            · rw [b4 _ _ (by unfold TF2; omega), v3 _ _ (by unfold TF2; omega), t2 _ _ (by omega), y5 _ _ (by omega)]; exact hr1
            · rw [b4 _ _ (by unfold TF2; omega), v3 _ _ (by unfold TF2; omega), t2 _ _ (by omega), y5 _ _ (by omega)]; exact hr2 y
            · rw [b4 _ _ (by unfold TF2; omega), v3 _ _ (by unfold TF2; omega)]; exact ur_us)⟩
    · rw [if_pos e2]
      obtain ⟨y1, y2⟩ := z1 e2
      refine ⟨0, f1, g, e_X10_readsLine_169 _ _ _ _ ?_, ⟨rfl, y2⟩, y5.mono (fun a k z => by unfold TDn; omega), eqL.refl⟩
      simp only [dk2, decide_eq_false (show ¬ k = 2 by omega), cond_false, dk4, decide_eq_false (show ¬ k = 4 by omega), y1, Option.bind_some, d00]
/-- which line it is -/
theorem m_w5 (hM : oModel s R 208) (hs : mS f g q i) {rr : ur_V} : (∀ k, k < 5 → kdT q i = 108 + k → ur_at ur_G (d + 3) 173 (71, [some (.ref 208), none, none], [.int (nI k)], (s, f, g, R)) = some rr → ur_call ur_G (d + 4) 173 [.ref 208] (s, f, g, R) = some rr) ∧ ((kdT q i < 108 ∨ 112 < kdT q i) → ur_at ur_G (d + 3) 173 (71, [some (.ref 208), none, none], [.int (-1 : Int32)], (s, f, g, R)) = some rr → ur_call ur_G (d + 4) 173 [.ref 208] (s, f, g, R) = some rr) := by
  have T : ∀ (x : Int64) (k : Nat), k < 20 → x = lN (wN 27 (kwl.getD k [])) → kdT q i = 100 + k → ur_call ur_G (d + 3) 146 [.ref 208, .long x] (s, f, g, R) = some (1, (s, f, g, R)) := fun x k h1 h2 h3 => wdT (d := d + 2) hM hs h1 h2 h3
  have F : ∀ (x : Int64) (k : Nat), k < 20 → x = lN (wN 27 (kwl.getD k [])) → kdT q i ≠ 100 + k → ur_call ur_G (d + 3) 146 [.ref 208, .long x] (s, f, g, R) = some (0, (s, f, g, R)) := fun x k h1 h2 h3 => wdF (d := d + 2) hM hs h1 h2 h3
  have x8 : (453773 : Int64) = lN (wN 27 (kwl.getD 8 [])) := by decide
  have x9 : (380237 : Int64) = lN (wN 27 (kwl.getD 9 [])) := by decide
  have x10 : (10415990 : Int64) = lN (wN 27 (kwl.getD 10 [])) := by decide
  have x11 : (55175 : Int64) = lN (wN 27 (kwl.getD 11 [])) := by decide
  have x12 : (191610176 : Int64) = lN (wN 27 (kwl.getD 12 [])) := by decide
  constructor
  · intro k hk e hr
    refine ur_cl hM.rcv rfl (e_X10_readsLine_0 _ _ ?_)
    match k, hk, e, hr with
    | 0, _, e, hr =>
      simp only [T _ 8 (by decide) x8 e, Option.bind_some, e10, cond_false]; exact hr
    | 1, _, e, hr =>
      simp only [F _ 8 (by decide) x8 (by omega), T _ 9 (by decide) x9 e, Option.bind_some, e10, cond_false, e00, decide_true, cond_true]; exact hr
    | 2, _, e, hr =>
      simp only [F _ 8 (by decide) x8 (by omega), F _ 9 (by decide) x9 (by omega), T _ 10 (by decide) x10 e, Option.bind_some, e10, cond_false, e00, decide_true, cond_true]; exact hr
    | 3, _, e, hr =>
      simp only [F _ 8 (by decide) x8 (by omega), F _ 9 (by decide) x9 (by omega), F _ 10 (by decide) x10 (by omega), T _ 11 (by decide) x11 e, Option.bind_some, e10, cond_false, e00, decide_true, cond_true]; exact hr
    | 4, _, e, hr =>
      simp only [F _ 8 (by decide) x8 (by omega), F _ 9 (by decide) x9 (by omega), F _ 10 (by decide) x10 (by omega), F _ 11 (by decide) x11 (by omega), T _ 12 (by decide) x12 e, Option.bind_some, e10, cond_false, e00, decide_true, cond_true]; exact hr
  · intro e hr
    refine ur_cl hM.rcv rfl (e_X10_readsLine_0 _ _ ?_)
    simp only [F _ 8 (by decide) x8 (by omega), F _ 9 (by decide) x9 (by omega), F _ 10 (by decide) x10 (by omega), F _ 11 (by decide) x11 (by omega), F _ 12 (by decide) x12 (by omega), Option.bind_some, e00, decide_true, cond_true]
    exact hr
end URLMe

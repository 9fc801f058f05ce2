/-! THE CLASS READS A LINE, AN EVENING -/
def cE (f : Nat → Nat → Int32) (g : Nat → Nat → Int64) (q : Nat × (Nat → Nat)) (o : Nat ⊕ (Nat × uL3)) (v : Int32) : Prop := match o with
  | .inl F => v = 0 ∧ f 1 7 = nI F
  | .inr x => v = 1 ∧ cS f g q x.1
def cL (f : Nat → Nat → Int32) (g : Nat → Nat → Int64) (q : Nat × (Nat → Nat)) (K : Nat) (ls : List uL3) (o : Nat ⊕ (Nat × uL3)) (v : Int32) : Prop := match o with
  | .inl F => v = 0 ∧ f 1 7 = nI F
  | .inr x => v = 1 ∧ cS f g q x.1 ∧ xSc f K (ls ++ [x.2])
def TKn (K n : Nat) : Nat → Nat → Prop := fun a k => (a = 1 ∧ 2 ≤ k ∧ k ≤ 7) ∨ (a = K ∧ k = 3) ∨ (K + 1 ≤ a ∧ a ≤ K + 3 ∧ k = n)
def TKa (K : Nat) : Nat → Nat → Prop := fun a k => (a = 1 ∧ 2 ≤ k ∧ k ≤ 7) ∨ (a = K ∧ k = 3) ∨ (K + 1 ≤ a ∧ a ≤ K + 3)
section URLX4
variable {s : List (Nat ⊕ (Nat × Nat))} {f f' : Nat → Nat → Int32} {g g' : Nat → Nat → Int64} {R : Nat → Nat → Option Nat} {d i j k p r K L N P n : Nat} {q : Nat × (Nat → Nat)} {rn pn : Nat → List Nat} {ls : List uL3} {x : uL3}
theorem TF1_Kn : ∀ a k, TF1 a k → TKn K n a k := fun a k y => Or.inl y
theorem TKn_Ka : ∀ a k, TKn K n a k → TKa K a k := fun a k y => by unfold TKn at y; unfold TKa; omega
theorem xSc.app (h : xSc f K ls) (t : eqT (TKn K ls.length) f f') (hK : 3 ≤ K) (h3 : f' K 3 = nI (ls.length + 1)) (a1 : f' (K + 1) ls.length = nI (108 + x.1)) (a2 : x.1 < 3 → f' (K + 2) ls.length = nI x.2.1) (a3 : (x.1 = 0 ∨ x.1 = 1 ∨ x.1 = 3) → f' (K + 3) ls.length = nI x.2.2) : xSc f' K (ls ++ [x]) := by
  have hl : (ls ++ [x]).length = ls.length + 1 := by simp
  refine ⟨by rw [hl]; exact h3, fun i hi => ?_⟩
  rw [hl] at hi
  by_cases e : i < ls.length
  · have e' : (ls ++ [x]).getD i (0, 0, 0) = ls.getD i (0, 0, 0) := by
      rw [List.getD_eq_getElem?_getD, List.getD_eq_getElem?_getD, List.getElem?_append_left e]
    rw [e', t (K + 1) i (by unfold TKn; omega), t (K + 2) i (by unfold TKn; omega), t (K + 3) i (by unfold TKn; omega)]
    exact h.2 i e
  · have ei : i = ls.length := by omega
    have e' : (ls ++ [x]).getD i (0, 0, 0) = x := by
      rw [List.getD_eq_getElem?_getD, ei, List.getElem?_append_right (Nat.le_refl _), Nat.sub_self]; rfl
    rw [e', ei]
    exact ⟨a1, a2, a3⟩
theorem x_scR (hO : oTape s R 1) (hS : s.length ≤ 1000) (hL : oLand s R L) (hK : oScript s R K) (hK3 : 3 ≤ K) (hc : cS f g q i) (h8 : N ≤ 8) (h10 : f L 10 = nI N) (hn : ∀ r, r < N → okW (rn r) ∧ g (L + 1) r = lN (wN 32 (rn r))) (hs : f K 3 = nI n) (hn40 : n < 40) : (pNm q rn N i ≠ 0 → ur_call ur_G (d + 9) 67 [.ref K, .ref 1, .ref L] (s, f, g, R) = some (0, (s, ur_u f 1 7 (nI (pNm q rn N i)), g, R))) ∧ (pNm q rn N i = 0 → ∃ f' g' m, ur_call ur_G (d + 9) 67 [.ref K, .ref 1, .ref L] (s, f, g, R) = some (1, (s, f', g', R)) ∧ cS f' g' q (enT q i) ∧ ix (fsP (fun p => decide (rn p = wlT q i)) N 0) = m ∧ f' (K + 3) n = nI m ∧ eqT (fun a k => TF1 a k ∨ (a = K + 3 ∧ k = n)) f f' ∧ eqL GF1 g g') := by
  obtain ⟨z1, z2⟩ := x_isR (d := d + 5) hO hL hc h8 h10 hn
  refine ⟨fun e => ur_cl hK.rcv rfl (e_X6_readRoom_0 _ _ _ _ ?_), fun e => ?_⟩
  · have z1' : ur_call ur_G (d + 8) 15 [.ref L, .ref 1] (s, f, g, R) = some (0, (s, ur_u f 1 7 (nI (pNm q rn N i)), g, R)) := z1 e
    simp only [z1', Option.bind_some, show decide ((0 : Int32) ≠ 0) = false from by decide, cond_false]
  · have z2' : ur_call ur_G (d + 8) 15 [.ref L, .ref 1] (s, f, g, R) = some (1, (s, f, g, R)) := z2 e
    obtain ⟨k3, r1⟩ := pNm_0 e
    have hw : isW (kdT q i) := Or.inl k3
    obtain ⟨w1, -⟩ := tk_w hc.le hw
    have n9 := x_rNm (d := d + 7) hL h8 h10 hn w1
    obtain ⟨m, m1, m2, m3⟩ := fs_in h8 r1
    have t1 : eqT (fun a k => a = K + 3 ∧ k = n) f (ur_u f (K + 3) n (nI m)) := eqT_u ⟨rfl, rfl⟩
    have c1 : cS (ur_u f (K + 3) n (nI m)) g q i := hc.fr t1 (eqL.refl (T := fun _ _ => False)) (fun k h1 h2 z => by omega) (fun k z => by omega) (fun z => z)
    obtain ⟨fa, ga, v1, v2, v3, v4⟩ := x_adv (d := d) hO hS c1
    have wr : ur_wI (s, f, g, R) (K + 3) 0 (nI n) (nI m) = some (s, ur_u f (K + 3) n (nI m), g, R) := hK.w3 hn40
    refine ⟨fa, ga, m, ur_cl hK.rcv rfl (e_X6_readRoom_0 _ _ _ _ ?_), v2, m3, ?_, (t1.mono (fun a k z => Or.inr z)).trans (v3.mono (fun a k z => Or.inl z)), v4⟩
    · rw [m2] at n9
      simp only [z2', Option.bind_some, show decide ((1 : Int32) ≠ 0) = true from by decide, cond_true, hO.L, hc.w hw, n9, hK.r2, hK.I, hs, wr, v1]
    · rw [v3 _ _ (by unfold TF1; omega), ur_us]
/-- a line's end -/
theorem x_tl (hO : oTape s R 1) (hS : s.length ≤ 1000) (hK : oScript s R K) (hK3 : 3 ≤ K) (hc : cS f g q j) (h3 : f K 3 = nI n) : ∃ v f' g', ((ur_fI (s, f, g, R) K 6 3).bind fun v1 => ((ur_pI (s, f, g, R) K 6 3 (v1 + (1 : Int32))).bind fun m2 => ((ur_call ur_G (d + 9) 78 [.ref 1, .int (59 : Int32)] m2).bind fun q3 => (bif ur_fit 1 q3.1 then some (q3.1, q3.2) else none)))) = some (v, (s, f', g', R)) ∧ cE f' g' q (pEnd q k p r j) v ∧ f' K 3 = nI (n + 1) ∧ eqT (fun a k => TF1 a k ∨ (a = K ∧ k = 3)) f f' ∧ eqL GF1 g g' := by
  have t1 : eqT (fun a k => a = K ∧ k = 3) f (ur_u f K 3 (nI (n + 1))) := eqT_u ⟨rfl, rfl⟩
  have c1 : cS (ur_u f K 3 (nI (n + 1))) g q j := hc.fr t1 (eqL.refl (T := fun _ _ => False)) (fun k h1 h2 z => by omega) (fun k z => by omega) (fun z => z)
  have t1' : eqT (fun a k => TF1 a k ∨ (a = K ∧ k = 3)) f (ur_u f K 3 (nI (n + 1))) := t1.mono (fun a k z => Or.inr z)
  unfold pEnd
  by_cases e : kdT q j = 59
  · rw [if_pos e]
    obtain ⟨f3, g3, b1, b2, b3, b4⟩ := x_take_y (d := d) hO hS c1 (v := 59) (c := 59) rfl e
    refine ⟨1, f3, g3, ?_, ⟨rfl, b2⟩, by rw [b3 _ _ (by unfold TF1; omega), ur_us], t1'.trans (b3.mono (fun a k z => Or.inl z)), b4⟩
    simp only [hK.I, hK.pI, Option.bind_some, h3, nI_1, b1]
    rfl
  · rw [if_neg e]
    have cn := x_take_n (d := d) hO c1 (v := 59) (c := 59) rfl (by decide) e
    refine ⟨0, _, g, ?_, ⟨rfl, ur_us⟩, by rw [ur_ua (by omega), ur_us], t1'.u (Or.inl ⟨rfl, by decide, by decide⟩), eqL.refl⟩
    simp only [hK.I, hK.pI, Option.bind_some, h3, nI_1, cn]
    rfl
theorem x_L2 (hO : oTape s R 1) (hS : s.length ≤ 1000) (hL : oLand s R L) (hK : oScript s R K) (hK3 : 3 ≤ K) (hLK : 3 ≤ L ∧ L < K) (hc : cS f g q j) (h8 : N ≤ 8) (h10 : f L 10 = nI N) (hn : ∀ r, r < N → okW (rn r) ∧ g (L + 1) r = lN (wN 32 (rn r))) (h : xSc f K ls) (hn40 : ls.length < 40) (hk : k < 5) (hr1 : f (K + 1) ls.length = nI (108 + k)) (hr2 : k < 3 → f (K + 2) ls.length = nI p) {p5 : Int32} (hp5 : p5 = bif decide (k = 2) || decide (k = 4) then 0 else 1) : ∃ v f' g', ur_at ur_G (d + 9) 65 (136, [some (.ref K), some (.ref 1), some (.ref L), none, none, some (.int p5)], [], (s, f, g, R)) = some (v, (s, f', g', R)) ∧ cL f' g' q K ls (pL2 q rn N k p j) v ∧ eqT (TKn K ls.length) f f' ∧ eqL GF1 g g' := by
  unfold pL2
  by_cases e : k = 2 ∨ k = 4
  · rw [if_pos e]
    have p50 : p5 = 0 := by rw [hp5]; rcases e with rfl | rfl <;> rfl
    obtain ⟨v, f1, g1, b1, b2, b3, b4, b5⟩ := x_tl (d := d) (k := k) (p := p) (r := 0) hO hS hK hK3 hc h.1
    have tt : eqT (TKn K ls.length) f f1 := b4.mono (fun a k z => by unfold TF1 at z; unfold TKn; omega)
    refine ⟨v, f1, g1, e_X6_readLine_136 _ _ _ _ _ ?_, ?_, tt, b5⟩
    · simp only [p50, e00, decide_true, cond_true]; exact b1
    · have ok := (pEnd_ok (q := q) (k := k) (p := p) (r := 0) hc.le).1
      revert b2 ok
      cases pEnd q k p 0 j with
      | inl F => exact fun b2 _ => b2
      | inr x => exact fun b2 ok => ⟨b2.1, b2.2, (by
          obtain ⟨-, -, o3⟩ := ok x rfl
          rw [o3]
          refine h.app tt hK3 b3 ?_ (fun y => ?_) (fun y => absurd y (by show ¬ (k = 0 ∨ k = 1 ∨ k = 3); omega))
          · rw [b4 _ _ (by unfold TF1; omega)]; exact hr1
          · rw [b4 _ _ (by unfold TF1; omega)]; exact hr2 y)⟩
  · rw [if_neg e]
    have p51 : p5 = 1 := by rw [hp5, decide_eq_false (show ¬ k = 2 by omega), decide_eq_false (show ¬ k = 4 by omega)]; rfl
    obtain ⟨z1, z2⟩ := x_scR (d := d) hO hS hL hK hK3 hc h8 h10 hn h.1 hn40
    by_cases e2 : pNm q rn N j = 0
    · rw [if_neg (fun y => y e2)]
      obtain ⟨f1, g1, m, y1, y2, y3, y4, y5, y6⟩ := z2 e2
      rw [y3]
      have h31 : f1 K 3 = nI ls.length := by rw [y5 _ _ (by unfold TF1; omega)]; exact h.1
      obtain ⟨v, f2, g2, b1, b2, b3, b4, b5⟩ := x_tl (d := d) (k := k) (p := p) (r := m) hO hS hK hK3 y2 h31
      have tt : eqT (TKn K ls.length) f f2 := (y5.mono (fun a k z => by unfold TF1 at z; unfold TKn; omega)).trans (b4.mono (fun a k z => by unfold TF1 at z; unfold TKn; omega))
      refine ⟨v, f2, g2, e_X6_readLine_136 _ _ _ _ _ ?_, ?_, tt, y6.trans b5⟩
      · simp only [p51, e10, cond_false, y1, Option.bind_some, show decide ((1 : Int32) ≠ 0) = true from by decide, cond_true]; exact b1
      · have ok := (pEnd_ok (q := q) (k := k) (p := p) (r := m) (tk_next hc.le).1).1
        revert b2 ok
        cases pEnd q k p m (enT q j) with
        | inl F => exact fun b2 _ => b2
        | inr x => exact fun b2 ok => ⟨b2.1, b2.2, (by
            obtain ⟨-, -, o3⟩ := ok x rfl
            rw [o3]
            refine h.app tt hK3 b3 ?_ (fun y => ?_) (fun y => ?_)
            · rw [b4 _ _ (by unfold TF1; omega), y5 _ _ (by unfold TF1; omega)]; exact hr1
            · rw [b4 _ _ (by unfold TF1; omega), y5 _ _ (by unfold TF1; omega)]; exact hr2 y
            · rw [b4 _ _ (by unfold TF1; omega)]; exact y4)⟩
    · rw [if_pos e2]
      refine ⟨0, _, g, e_X6_readLine_136 _ _ _ _ _ ?_, ⟨rfl, ur_us⟩, eqT_u (Or.inl ⟨rfl, by decide, by decide⟩), eqL.refl⟩
      simp only [p51, e10, cond_false, z1 e2, Option.bind_some, show decide ((0 : Int32) ≠ 0) = false from by decide]
end URLX4

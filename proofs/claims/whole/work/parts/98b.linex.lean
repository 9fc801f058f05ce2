/-! THE CLASS READS A LINE: person and room -/
section URLX3
variable {s : List (Nat ⊕ (Nat × Nat))} {f : Nat → Nat → Int32} {g : Nat → Nat → Int64} {R : Nat → Nat → Option Nat} {d i K L N P n : Nat} {q : Nat × (Nat → Nat)} {rn pn : Nat → List Nat}
theorem x_scP (hO : oTape s R 1) (hS : s.length ≤ 1000) (hL : oLand s R L) (hK : oScript s R K) (hK3 : 3 ≤ K) (hc : cS f g q i) (h5 : P ≤ 5) (h12 : f L 12 = nI P) (hn : ∀ r, r < P → okW (pn r) ∧ g (L + 4) r = lN (wN 32 (pn r))) (hs : f K 3 = nI n) (hn40 : n < 40) : (pNm q pn P i ≠ 0 → ur_call ur_G (d + 9) 66 [.ref K, .ref 1, .ref L] (s, f, g, R) = some (0, (s, ur_u f 1 7 (nI (pNm q pn P i)), g, R))) ∧ (pNm q pn P i = 0 → ∃ f' g' m, ur_call ur_G (d + 9) 66 [.ref K, .ref 1, .ref L] (s, f, g, R) = some (1, (s, f', g', R)) ∧ cS f' g' q (enT q i) ∧ m < P ∧ ix (fsP (fun p => decide (pn p = wlT q i)) P 0) = m ∧ f' (K + 2) n = nI m ∧ eqT (fun a k => TF1 a k ∨ (a = K + 2 ∧ k = n)) f f' ∧ eqL GF1 g g') := by
  have hkl := hc.kl
  have dk3 : decide (nI (kdT q i) = (3 : Int32)) = decide (kdT q i = 3) := d_eq (b := 3) (by omega) (by decide)
  have f1 := x_fl (d := d + 7) hO hc (k := 1) (v := 1) rfl
  have f2 := x_fl (d := d + 7) hO hc (k := 2) (v := 2) rfl
  by_cases k3 : kdT q i = 3
  · have hw : isW (kdT q i) := Or.inl k3
    obtain ⟨w1, -⟩ := tk_w hc.le hw
    have n9 := x_pNm (d := d + 7) hL h5 h12 hn w1
    have e3 : decide (nI (kdT q i) = (3 : Int32)) = true := dk3.trans (decide_eq_true k3)
    by_cases r1 : fsP (fun r => decide (pn r = wlT q i)) P 0 = -1
    · have e : pNm q pn P i = 2 + 16 * bgT q i := by
        unfold pNm
        rw [if_neg (fun z => z k3), if_pos r1]
      refine ⟨fun _ => ?_, fun z => absurd z (by omega)⟩
      refine ur_cl hK.rcv rfl (e_X6_readPerson_0 _ _ _ _ ?_)
      simp only [hO.I, hO.L, Option.bind_some, hc.kd, e3, cond_true, hc.w hw, n9, r1, show decide ((-1 : Int32) ≠ -1) = false from by decide, cond_false, f2, e]
      rfl
    · have e : pNm q pn P i = 0 := by
        unfold pNm
        rw [if_neg (fun z => z k3), if_neg r1]
      refine ⟨fun z => absurd e z, fun _ => ?_⟩
      obtain ⟨m, m1, m2, m3⟩ := fs_in (N := P) (by omega) r1
      have t1 : eqT (fun a k => a = K + 2 ∧ k = n) f (ur_u f (K + 2) n (nI m)) := eqT_u ⟨rfl, rfl⟩
      have c1 : cS (ur_u f (K + 2) n (nI m)) g q i := hc.fr t1 (eqL.refl (T := fun _ _ => False)) (fun k h1 h2 z => by omega) (fun k z => by omega) (fun z => z)
      obtain ⟨fa, ga, v1, v2, v3, v4⟩ := x_adv (d := d) hO hS c1
      have wr : ur_wI (s, f, g, R) (K + 2) 0 (nI n) (nI m) = some (s, ur_u f (K + 2) n (nI m), g, R) := hK.w2 hn40
      refine ⟨fa, ga, m, ur_cl hK.rcv rfl (e_X6_readPerson_0 _ _ _ _ ?_), v2, m1, m3, ?_, (t1.mono (fun a k z => Or.inr z)).trans (v3.mono (fun a k z => Or.inl z)), v4⟩
      · rw [m2] at n9
        simp only [hO.I, hO.L, Option.bind_some, hc.kd, e3, cond_true, hc.w hw, n9, decide_eq_true (nI_ne_m1 (show m < 2 ^ 31 by omega)), hK.r1, hK.I, hs, wr, v1]
      · rw [v3 _ _ (by unfold TF1; omega), ur_us]
  · have e : pNm q pn P i = 1 + 16 * bgT q i := by
      unfold pNm
      rw [if_pos k3]
    refine ⟨fun _ => ?_, fun z => absurd z (by omega)⟩
    refine ur_cl hK.rcv rfl (e_X6_readPerson_0 _ _ _ _ ?_)
    simp only [hO.I, Option.bind_some, hc.kd, dk3, decide_eq_false k3, cond_false, f1, e]
    rfl
end URLX3

/-! THE CLASS READS A LINE: names -/
section URLX2
variable {s : List (Nat ⊕ (Nat × Nat))} {f : Nat → Nat → Int32} {g : Nat → Nat → Int64} {R : Nat → Nat → Option Nat} {d i L N P : Nat} {q : Nat × (Nat → Nat)} {rn pn : Nat → List Nat}
theorem x_isR (hO : oTape s R 1) (hL : oLand s R L) (hc : cS f g q i) (h8 : N ≤ 8) (h10 : f L 10 = nI N) (hn : ∀ r, r < N → okW (rn r) ∧ g (L + 1) r = lN (wN 32 (rn r))) : (pNm q rn N i ≠ 0 → ur_call ur_G (d + 3) 15 [.ref L, .ref 1] (s, f, g, R) = some (0, (s, ur_u f 1 7 (nI (pNm q rn N i)), g, R))) ∧ (pNm q rn N i = 0 → ur_call ur_G (d + 3) 15 [.ref L, .ref 1] (s, f, g, R) = some (1, (s, f, g, R))) := by
  have hkl := hc.kl
  have dk3 : decide (nI (kdT q i) = (3 : Int32)) = decide (kdT q i = 3) := d_eq (b := 3) (by omega) (by decide)
  have f1 := x_fl (d := d + 1) hO hc (k := 1) (v := 1) rfl
  have f2 := x_fl (d := d + 1) hO hc (k := 2) (v := 2) rfl
  by_cases k3 : kdT q i = 3
  · have hw : isW (kdT q i) := Or.inl k3
    obtain ⟨w1, -⟩ := tk_w hc.le hw
    have n9 := x_rNm (d := d + 1) hL h8 h10 hn w1
    have e3 : decide (nI (kdT q i) = (3 : Int32)) = true := dk3.trans (decide_eq_true k3)
    by_cases r1 : fsP (fun r => decide (rn r = wlT q i)) N 0 = -1
    · have e : pNm q rn N i = 2 + 16 * bgT q i := by
        unfold pNm
        rw [if_neg (fun z => z k3), if_pos r1]
      refine ⟨fun _ => ?_, fun z => absurd z (by omega)⟩
      refine ur_cl hL.rcv rfl (e_X1_isRoomName_0 _ _ _ ?_)
      simp only [hO.I, hO.L, Option.bind_some, hc.kd, e3, cond_true, hc.w hw, n9, r1, show decide ((-1 : Int32) ≠ -1) = false from by decide, cond_false, f2, e, e00]
      rfl
    · have e : pNm q rn N i = 0 := by
        unfold pNm
        rw [if_neg (fun z => z k3), if_neg r1]
      refine ⟨fun z => absurd e z, fun _ => ?_⟩
      refine ur_cl hL.rcv rfl (e_X1_isRoomName_0 _ _ _ ?_)
      simp only [hO.I, hO.L, Option.bind_some, hc.kd, e3, cond_true, hc.w hw, n9, decide_eq_true (show fsP (fun r => decide (rn r = wlT q i)) N 0 ≠ -1 from r1)]
  · have e : pNm q rn N i = 1 + 16 * bgT q i := by
      unfold pNm
      rw [if_pos k3]
    refine ⟨fun _ => ?_, fun z => absurd z (by omega)⟩
    refine ur_cl hL.rcv rfl (e_X1_isRoomName_0 _ _ _ ?_)
    simp only [hO.I, Option.bind_some, hc.kd, dk3, decide_eq_false k3, cond_false, f1, e]
    rfl
end URLX2

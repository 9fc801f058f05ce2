/-! NAMES of the land that holds, by either side; a line of an evening, pure -/
section URNA
variable {s : List (Nat ⊕ (Nat × Nat))} {f : Nat → Nat → Int32} {g : Nat → Nat → Int64} {R : Nat → Nat → Option Nat} {d L N P : Nat} {ws : List Nat} {rn pn : Nat → List Nat}
theorem nmJ.ch (h : nmJ g L N P) : ∃ rn pn : Nat → List Nat, (∀ r, r < N → okW (rn r) ∧ g (L + 1) r = lN (wN 32 (rn r)) ∧ g 211 r = lN (wN 27 (rn r))) ∧ (∀ p, p < P → okW (pn p) ∧ g (L + 4) p = lN (wN 32 (pn p)) ∧ g 214 p = lN (wN 27 (pn p))) := by
  obtain ⟨h1, h2⟩ := h
  have a : ∀ r, ∃ w : List Nat, r < N → okW w ∧ g (L + 1) r = lN (wN 32 w) ∧ g 211 r = lN (wN 27 w) := fun r => by
    by_cases hr : r < N
    · obtain ⟨w, w1, w2, w3, w4⟩ := h1 r hr
      exact ⟨w, fun _ => ⟨⟨w1, w2⟩, w3, w4⟩⟩
    · exact ⟨[], fun y => absurd y hr⟩
  have b : ∀ p, ∃ w : List Nat, p < P → okW w ∧ g (L + 4) p = lN (wN 32 w) ∧ g 214 p = lN (wN 27 w) := fun p => by
    by_cases hp : p < P
    · obtain ⟨w, w1, w2, w3, w4⟩ := h2 p hp
      exact ⟨w, fun _ => ⟨⟨w1, w2⟩, w3, w4⟩⟩
    · exact ⟨[], fun y => absurd y hp⟩
  exact ⟨fun r => Classical.choose (a r), fun p => Classical.choose (b p), fun r hr => Classical.choose_spec (a r) hr, fun p hp => Classical.choose_spec (b p) hp⟩
theorem x_rNm (hL : oLand s R L) (h8 : N ≤ 8) (h10 : f L 10 = nI N) (hn : ∀ r, r < N → okW (rn r) ∧ g (L + 1) r = lN (wN 32 (rn r))) (hw : okW ws) : ur_call ur_G (d + 1) 9 [.ref L, .long (lN (wN 32 ws))] (s, f, g, R) = some (fsP (fun r => decide (rn r = ws)) N 0, (s, f, g, R)) := by
  have key : ∀ n r, n + r = N → ur_at ur_G d 9 (2, [some (.ref L), some (.long (lN (wN 32 ws))), none, some (.int (nI r))], [], (s, f, g, R)) = some (fsP (fun r => decide (rn r = ws)) n r, (s, f, g, R)) := by
    intro n
    induction n with
    | zero =>
      intro r hr
      have : r = N := by omega
      subst this
      refine e_X1_roomNamed_2 _ _ _ _ ?_
      simp only [hL.I, Option.bind_some, h10, d_le (show r < 2 ^ 31 by omega) (show r < 2 ^ 31 by omega), Nat.le_refl, decide_true, cond_true]
      rfl
    | succ n ih =>
      intro r hr
      refine e_X1_roomNamed_2 _ _ _ _ ?_
      show _ = some (bif decide (rn r = ws) then nI r else fsP (fun r => decide (rn r = ws)) n (r + 1), (s, f, g, R))
      simp only [hL.I, Option.bind_some, h10, d_le (show N < 2 ^ 31 by omega) (show r < 2 ^ 31 by omega), decide_eq_false (show ¬ N ≤ r by omega), cond_false, hL.r0, hL.a1 (show r < 8 by omega), (hn r (by omega)).2, lg_0, w_eq (show 27 ≤ 32 by decide) (Nat.le_refl 32) (hn r (by omega)).1 hw, nI_1]
      cases decide (rn r = ws) with
      | true => rfl
      | false => exact ih (r + 1) (by omega)
  exact ur_cl hL.rcv rfl (e_X1_roomNamed_0 _ _ _ (key N 0 rfl))
theorem x_pNm (hL : oLand s R L) (h5 : P ≤ 5) (h12 : f L 12 = nI P) (hn : ∀ p, p < P → okW (pn p) ∧ g (L + 4) p = lN (wN 32 (pn p))) (hw : okW ws) : ur_call ur_G (d + 1) 10 [.ref L, .long (lN (wN 32 ws))] (s, f, g, R) = some (fsP (fun p => decide (pn p = ws)) P 0, (s, f, g, R)) := by
  have key : ∀ n r, n + r = P → ur_at ur_G d 10 (2, [some (.ref L), some (.long (lN (wN 32 ws))), none, some (.int (nI r))], [], (s, f, g, R)) = some (fsP (fun r => decide (pn r = ws)) n r, (s, f, g, R)) := by
    intro n
    induction n with
    | zero =>
      intro r hr
      have : r = P := by omega
      subst this
      refine e_X1_personNamed_2 _ _ _ _ ?_
      simp only [hL.I, Option.bind_some, h12, d_le (show r < 2 ^ 31 by omega) (show r < 2 ^ 31 by omega), Nat.le_refl, decide_true, cond_true]
      rfl
    | succ n ih =>
      intro r hr
      refine e_X1_personNamed_2 _ _ _ _ ?_
      show _ = some (bif decide (pn r = ws) then nI r else fsP (fun r => decide (pn r = ws)) n (r + 1), (s, f, g, R))
      simp only [hL.I, Option.bind_some, h12, d_le (show P < 2 ^ 31 by omega) (show r < 2 ^ 31 by omega), decide_eq_false (show ¬ P ≤ r by omega), cond_false, hL.r3, hL.a4 (show r < 5 by omega), (hn r (by omega)).2, lg_0, w_eq (show 27 ≤ 32 by decide) (Nat.le_refl 32) (hn r (by omega)).1 hw, nI_1]
      cases decide (pn r = ws) with
      | true => rfl
      | false => exact ih (r + 1) (by omega)
  exact ur_cl hL.rcv rfl (e_X1_personNamed_0 _ _ _ (key P 0 rfl))
end URNA

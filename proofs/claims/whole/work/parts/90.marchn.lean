/-! MARCHES, with a fault in the text -/
section URMN
variable {s : List (Nat ⊕ (Nat × Nat))} {f l V : Nat → Nat → Int32} {g : Nat → Nat → Int64} {R : Nat → Nat → Option Nat} {L L' K K' N P d F : Nat} {E : Int32 → Int32 → Int32 → Int32 → Int32} {q : Nat × (Nat → Nat)}
theorem okC_lt {c : Nat} (h : okC c = true) : c < 128 := by
  unfold okC at h
  simp only [Bool.or_eq_true, Bool.and_eq_true, decide_eq_true_eq] at h
  omega
theorem j_march_no (h : JV s R f g L L' K K' l V N P E) (hS : s.length ≤ 1000) (q1 : tpC f 1 2 1 q) (q2 : tpC f 208 209 1 q) (hch : ∀ k, k < q.1 → q.2 k < 128) (e : pAll q (q.1 + 1) 0 z0 none = .inl F) : JC s R f g (d + 60) 83 177 [] := by
  have hX := h.oX
  have hM := h.cM
  have hO := hM.oM
  have hL := hX.eL
  have hF : okF q F := (pAll_F hch q1.2.1 (q.1 + 1) 0 z0 none (by omega) (Nat.zero_le _) zW_0 trivial).1 F e
  have hq := q1.2.1
  unfold okF at hF
  obtain ⟨v, f1, g1, a1, a2, a3, a4⟩ := x_read (d := d + 8) hX.tape hS hX.draft hX.draft.oLaw8 (by omega) (show tpX f q from ⟨q1, hch⟩)
  rw [e] at a2
  have ev : v = nI F := a2
  subst ev
  obtain ⟨f2, hf2⟩ : ∃ f2, f2 = ur_u f1 1 1 0 := ⟨_, rfl⟩
  obtain ⟨f3, hf3⟩ : ∃ f3, f3 = ur_u f2 208 0 0 := ⟨_, rfl⟩
  have t3 : eqT (fun a k => TZa L' a k ∨ (a = 1 ∧ k = 1) ∨ (a = 208 ∧ k = 0)) f f3 := by
    have ta : eqT (fun a k => TZa L' a k ∨ (a = 1 ∧ k = 1) ∨ (a = 208 ∧ k = 0)) f f1 := a3.mono (fun a k y => Or.inl y)
    rw [hf3, hf2]
    exact (ta.u (Or.inr (Or.inl ⟨rfl, rfl⟩))).u (Or.inr (Or.inr ⟨rfl, rfl⟩))
  have q3 : tpC f3 208 209 1 q := ⟨by rw [t3 _ _ (by unfold TZa; omega)]; exact q2.1, q2.2.1, fun k hk => by rw [t3 _ _ (by unfold TZa; omega)]; exact q2.2.2 k hk⟩
  obtain ⟨w, f4, g4, b1, b2, b3, b4, b5⟩ := m_read (d := d + 54) (g := g1) hO q3 hch
  rw [e] at b2
  have bw : w = 0 ∧ f4 208 9 = nI F := b2
  have a1' : ur_call ur_G (d + 59) 12 [.ref L', .ref 1] (s, f, g, R) = some (nI F, (s, f1, g1, R)) := a1
  have b1' : ur_call ur_G (d + 59) 168 [.ref 208] (s, f3, g1, R) = some (w, (s, f4, g4, R)) := b1
  have nz : decide (nI F = (0 : Int32)) = false := (d_eq (b := 0) (by omega) (by decide)).trans (decide_eq_false (by omega))
  refine ⟨nI F, f2, g1, R, f4, g4, R, ur_cl hX.rcv rfl (e_X9_marches_0 _ _ ?_), ur_cl hO.rcv rfl (e_X10_marches_0 _ _ ?_), (j_rd h ?_ ?_ ?_).inv⟩
  · simp only [hX.r2, hX.r0, Option.bind_some, a1', hX.tape.pI, ← hf2, nz, cond_false]
  · simp only [hO.pI, Option.bind_some, ← hf3, b1', bw.1, d00, cond_false, hO.I, bw.2]
  · refine (t3.mono (fun a k y => ?_)).trans (b3.mono (fun a k y => Or.inr (Or.inr (Or.inl y))))
    rcases y with y | y | y
    · exact Or.inl y
    · exact Or.inr (Or.inl y)
    · exact Or.inr (Or.inr (Or.inr y))
  · exact (a4.mono (fun a k y => Or.inl y)).trans (b4.mono (fun a k y => Or.inr y))
  · refine ⟨0, by decide, ?_, b5, fun k hk => absurd hk (Nat.not_lt_zero k)⟩
    rw [b3 _ _ (by unfold TMr TMz TMa TG; omega), hf3, ur_ua (by decide), hf2]
    exact ur_us
end URMN

/-! THE REFERENCE LAYS A NEW LAND -/
def TLz : Nat → Nat → Prop := fun a k => (a = 210 ∧ k < 3) ∨ ((a = 212 ∨ a = 213) ∧ k < 8) ∨ ((a = 215 ∨ a = 216 ∨ a = 217) ∧ k < 5) ∨ (a = 220 ∧ k < 1000) ∨ ((a = 218 ∨ a = 219) ∧ k = 0)
def GLz : Nat → Nat → Prop := fun a k => (a = 211 ∧ k < 8) ∨ (a = 214 ∧ k < 5)
section URLZ
variable {s : List (Nat ⊕ (Nat × Nat))} {f : Nat → Nat → Int32} {g : Nat → Nat → Int64} {R : Nat → Nat → Option Nat} {d : Nat}
theorem m_lays (hM : oModel s R 208) : ∃ f' g', ur_call ur_G (d + 2) 171 [.ref 208] (s, f, g, R) = some (0, (s, f', g', R)) ∧ (∀ k, k < 3 → f' 210 k = f 210 (3 + k)) ∧ (∀ k, k < 8 → g' 211 k = g 211 (8 + k) ∧ f' 212 k = f 212 (8 + k) ∧ f' 213 k = f 213 (8 + k)) ∧ (∀ k, k < 5 → g' 214 k = g 214 (5 + k) ∧ f' 215 k = f 215 (5 + k) ∧ f' 216 k = f 216 (5 + k) ∧ f' 217 k = f 217 (5 + k)) ∧ (∀ k, k < 1000 → f' 220 k = f 220 (1000 + k)) ∧ f' 218 0 = f 218 1 - 1000 ∧ f' 219 0 = f 219 1 - 1000 ∧ eqT TLz f f' ∧ eqL GLz g g' := by
  obtain ⟨f1, a1, b1, c1⟩ := m_shifts (d := d) (f := f) (g := g) (R := R) (n := 3) (a := 208 + 2) hM.s2 (by decide)
  obtain ⟨g1, a2, b2, c2⟩ := m_shiftsN (d := d) (f := f1) (g := g) (R := R) (n := 8) (a := 208 + 3) hM.s3 (by decide)
  obtain ⟨g2, a3, b3, c3⟩ := m_shiftsN (d := d) (f := f1) (g := g1) (R := R) (n := 5) (a := 208 + 6) hM.s6 (by decide)
  obtain ⟨f2, a4, b4, c4⟩ := m_shifts (d := d) (f := f1) (g := g2) (R := R) (n := 8) (a := 208 + 4) hM.s4 (by decide)
  obtain ⟨f3, a5, b5, c5⟩ := m_shifts (d := d) (f := f2) (g := g2) (R := R) (n := 8) (a := 208 + 5) hM.s5 (by decide)
  obtain ⟨f4, a6, b6, c6⟩ := m_shifts (d := d) (f := f3) (g := g2) (R := R) (n := 5) (a := 208 + 7) hM.s7 (by decide)
  obtain ⟨f5, a7, b7, c7⟩ := m_shifts (d := d) (f := f4) (g := g2) (R := R) (n := 5) (a := 208 + 8) hM.s8 (by decide)
  obtain ⟨f6, a8, b8, c8⟩ := m_shifts (d := d) (f := f5) (g := g2) (R := R) (n := 5) (a := 208 + 9) hM.s9 (by decide)
  obtain ⟨f7, a9, b9, c9⟩ := m_shifts (d := d) (f := f6) (g := g2) (R := R) (n := 1000) (a := 208 + 12) hM.s12 (by decide)
  have a1' : ur_call ur_G (d + 1) 169 [.ref (208 + 2), .int (3 : Int32)] (s, f, g, R) = some (0, (s, f1, g, R)) := a1
  have a2' : ur_call ur_G (d + 1) 170 [.ref (208 + 3), .int (8 : Int32)] (s, f1, g, R) = some (0, (s, f1, g1, R)) := a2
  have a3' : ur_call ur_G (d + 1) 170 [.ref (208 + 6), .int (5 : Int32)] (s, f1, g1, R) = some (0, (s, f1, g2, R)) := a3
  have a4' : ur_call ur_G (d + 1) 169 [.ref (208 + 4), .int (8 : Int32)] (s, f1, g2, R) = some (0, (s, f2, g2, R)) := a4
  have a5' : ur_call ur_G (d + 1) 169 [.ref (208 + 5), .int (8 : Int32)] (s, f2, g2, R) = some (0, (s, f3, g2, R)) := a5
  have a6' : ur_call ur_G (d + 1) 169 [.ref (208 + 7), .int (5 : Int32)] (s, f3, g2, R) = some (0, (s, f4, g2, R)) := a6
  have a7' : ur_call ur_G (d + 1) 169 [.ref (208 + 8), .int (5 : Int32)] (s, f4, g2, R) = some (0, (s, f5, g2, R)) := a7
  have a8' : ur_call ur_G (d + 1) 169 [.ref (208 + 9), .int (5 : Int32)] (s, f5, g2, R) = some (0, (s, f6, g2, R)) := a8
  have a9' : ur_call ur_G (d + 1) 169 [.ref (208 + 12), .int (1000 : Int32)] (s, f6, g2, R) = some (0, (s, f7, g2, R)) := a9
  have r10 : ∀ f : Nat → Nat → Int32, ur_aI (s, f, g2, R) (208 + 10) 0 (1 : Int32) = some (f (208 + 10) 1) := fun f => hM.a10 (j := 1) (by decide)
  have r11 : ∀ f : Nat → Nat → Int32, ur_aI (s, f, g2, R) (208 + 11) 0 (1 : Int32) = some (f (208 + 11) 1) := fun f => hM.a11 (j := 1) (by decide)
  have w10 : ∀ (f : Nat → Nat → Int32) (v : Int32), ur_wI (s, f, g2, R) (208 + 10) 0 (0 : Int32) v = some (s, ur_u f (208 + 10) 0 v, g2, R) := fun f v => hM.w10 (j := 0) (by decide)
  have w11 : ∀ (f : Nat → Nat → Int32) (v : Int32), ur_wI (s, f, g2, R) (208 + 11) 0 (0 : Int32) v = some (s, ur_u f (208 + 11) 0 v, g2, R) := fun f v => hM.w11 (j := 0) (by decide)
  obtain ⟨f8, hf8⟩ : ∃ f8, f8 = ur_u f7 (208 + 10) 0 (f7 (208 + 10) 1 - 1000) := ⟨_, rfl⟩
  obtain ⟨f9, hf9⟩ : ∃ f9, f9 = ur_u f8 (208 + 11) 0 (f8 (208 + 11) 1 - 1000) := ⟨_, rfl⟩
  have t8 : eqT (fun a k => a = 218 ∧ k = 0) f7 f8 := by rw [hf8]; exact eqT_u ⟨rfl, rfl⟩
  have t9 : eqT (fun a k => a = 219 ∧ k = 0) f8 f9 := by rw [hf9]; exact eqT_u ⟨rfl, rfl⟩
  refine ⟨f9, g2, ur_cl hM.rcv rfl (e_X10_lays_0 _ _ ?_), fun k hk => ?_, fun k hk => ⟨?_, ?_, ?_⟩, fun k hk => ⟨?_, ?_, ?_, ?_⟩, fun k hk => ?_, ?_, ?_, ?_, ?_⟩
  · simp only [hM.r10, Option.bind_some, a1', hM.r11, a2', hM.r14, a3', hM.r12, a4', hM.r13, a5', hM.r15, a6', hM.r16, a7', hM.r17, a8', hM.r20, a9', hM.r18, r10, w10, ← hf8, hM.r19, r11, w11, ← hf9]
  · rw [t9 _ _ (by omega), t8 _ _ (by omega), c9 _ _ (by omega), c8 _ _ (by omega), c7 _ _ (by omega), c6 _ _ (by omega), c5 _ _ (by omega), c4 _ _ (by omega)]
    exact b1 k hk
  · rw [c3 _ _ (by omega)]; exact b2 k hk
  · rw [t9 _ _ (by omega), t8 _ _ (by omega), c9 _ _ (by omega), c8 _ _ (by omega), c7 _ _ (by omega), c6 _ _ (by omega), c5 _ _ (by omega)]
    refine (b4 k hk).trans ?_
    rw [c1 _ _ (by omega)]
  · rw [t9 _ _ (by omega), t8 _ _ (by omega), c9 _ _ (by omega), c8 _ _ (by omega), c7 _ _ (by omega), c6 _ _ (by omega)]
    refine (b5 k hk).trans ?_
    rw [c4 _ _ (by omega), c1 _ _ (by omega)]
  · refine (b3 k hk).trans ?_
    rw [c2 _ _ (by omega)]
  · rw [t9 _ _ (by omega), t8 _ _ (by omega), c9 _ _ (by omega), c8 _ _ (by omega), c7 _ _ (by omega)]
    refine (b6 k hk).trans ?_
    rw [c5 _ _ (by omega), c4 _ _ (by omega), c1 _ _ (by omega)]
  · rw [t9 _ _ (by omega), t8 _ _ (by omega), c9 _ _ (by omega), c8 _ _ (by omega)]
    refine (b7 k hk).trans ?_
    rw [c6 _ _ (by omega), c5 _ _ (by omega), c4 _ _ (by omega), c1 _ _ (by omega)]
  · rw [t9 _ _ (by omega), t8 _ _ (by omega), c9 _ _ (by omega)]
    refine (b8 k hk).trans ?_
    rw [c7 _ _ (by omega), c6 _ _ (by omega), c5 _ _ (by omega), c4 _ _ (by omega), c1 _ _ (by omega)]
  · rw [t9 _ _ (by omega), t8 _ _ (by omega)]
    refine (b9 k hk).trans ?_
    rw [c8 _ _ (by omega), c7 _ _ (by omega), c6 _ _ (by omega), c5 _ _ (by omega), c4 _ _ (by omega), c1 _ _ (by omega)]
  · rw [t9 _ _ (by omega), hf8]
    refine ur_us.trans ?_
    rw [c9 _ _ (by omega), c8 _ _ (by omega), c7 _ _ (by omega), c6 _ _ (by omega), c5 _ _ (by omega), c4 _ _ (by omega), c1 _ _ (by omega)]
  · rw [hf9]
    refine ur_us.trans ?_
    rw [t8 _ _ (by omega), c9 _ _ (by omega), c8 _ _ (by omega), c7 _ _ (by omega), c6 _ _ (by omega), c5 _ _ (by omega), c4 _ _ (by omega), c1 _ _ (by omega)]
  · refine (((((((c1.mono (fun a k z => ?_)).trans (c4.mono (fun a k z => ?_))).trans (c5.mono (fun a k z => ?_))).trans (c6.mono (fun a k z => ?_))).trans (c7.mono (fun a k z => ?_))).trans (c8.mono (fun a k z => ?_))).trans (c9.mono (fun a k z => ?_))).trans ((t8.mono (fun a k z => ?_)).trans (t9.mono (fun a k z => ?_))) <;> unfold TLz <;> omega
  · refine (c2.mono (fun a k z => ?_)).trans (c3.mono (fun a k z => ?_)) <;> unfold GLz <;> omega
end URLZ

/-! MARCHES, with a good text -/
section URMY
variable {s : List (Nat ⊕ (Nat × Nat))} {f f' l V : Nat → Nat → Int32} {g g' : Nat → Nat → Int64} {R : Nat → Nat → Option Nat} {L L' K K' N P d : Nat} {E : Int32 → Int32 → Int32 → Int32 → Int32} {q : Nat × (Nat → Nat)} {z : uPL} {t : uTl}
/-- the reference's marks are taken up -/
theorem m_unlay (hM : oModel s R 208) : ∃ f', ur_at ur_G d 177 (46, [some (.ref 208), some (.int 0)], [], (s, f, g, R)) = some (0, (s, f', g, R)) ∧ (∀ i, i < 4 → f' 246 i = 0) ∧ eqT (fun a k => a = 246 ∧ k < 4) f f' := by
  have main := lp (n := 4) (Fn := fun j (f' : Nat → Nat → Int32) => ur_at ur_G d 177 (46, [some (.ref 208), some (.int (nI j))], [], (s, f', g, R)))
    (I := fun j f' => (∀ i, i < j → f' 246 i = 0) ∧ eqT (fun a k => a = 246 ∧ k < 4) f f')
    (Q := fun r => r.1 = 0 ∧ ∃ f', r.2 = (s, f', g, R) ∧ (∀ i, i < 4 → f' 246 i = 0) ∧ eqT (fun a k => a = 246 ∧ k < 4) f f') ?_ ?_ f ⟨fun k hk => absurd hk (by omega), eqT.refl⟩
  · obtain ⟨⟨v', m⟩, e1, e2, f', e3, e4, e5⟩ := main
    dsimp only at e2 e3
    subst e2 e3
    exact ⟨f', e1, e4, e5⟩
  · intro j f1 hj ⟨i1, i2⟩
    refine ⟨ur_u f1 246 j 0, ⟨fun k hk => ?_, i2.u ⟨rfl, hj⟩⟩, fun r hr => e_X10_marches_46 _ _ _ ?_⟩
    · by_cases e : k = j
      · rw [e, ur_us]
      · rw [ur_un e]; exact i1 k (by omega)
    · have nar0 : vp_nar .boolean (0 : Int32) = 0 := nar_b false
      have w38 : ur_wI (s, f1, g, R) (208 + 38) 2 (nI j) 0 = some (s, ur_u f1 246 j 0, g, R) := hM.w38 hj
      simp only [show decide ((4 : Int32) ≤ nI j) = false from (d_le (a := 4) (by decide) (by omega)).trans (decide_eq_false (by omega)), cond_false, hM.r49, Option.bind_some, nar0, w38, nI_1]
      exact hr
  · intro f1 ⟨i1, i2⟩
    refine ⟨(0, (s, f1, g, R)), e_X10_marches_46 _ _ _ ?_, rfl, f1, rfl, i1, i2⟩
    simp only [show decide ((4 : Int32) ≤ nI 4) = true from by decide, cond_true]
/-- the law told, on either side -/
theorem tl_law (ht : tlW t) : ∃ E : Int32 → Int32 → Int32 → Int32 → Int32, (∀ st : Nat → Int32, (∀ k, k < (tlR t).length → st k = (tlR t).getD k 0) → ∀ u t' y n K, vlX st (tlR t).length u t' y n K = E u t' y n) ∧ (∀ cs : Nat → Int32, (∀ j, j < (tlC t).length → cs j = (tlC t).getD j 0) → (((tlC t).length = 0 ∧ ∀ u t' y m, E u t' y m = u) ∨ (0 < (tlC t).length ∧ ∀ A W, wkM cs A 0 (tlC t).length W = some (E (A 1) (A 2) (A 3) (A 4))))) ∧ (tlR t).length ≤ 1000 ∧ (tlC t).length ≤ 1000 := by
  cases t with
  | none => exact ⟨fun u _ _ _ => u, fun st _ u t' y n K => rfl, fun cs _ => Or.inl ⟨rfl, fun _ _ _ _ => rfl⟩, Nat.zero_le _, Nat.zero_le _⟩
  | some x =>
    obtain ⟨h1, h2, h3, v, h4, h5⟩ := ht
    exact ⟨v, h4, fun cs hc => Or.inr ⟨h1, fun A W => h5 cs 0 (fun j hj => by rw [Nat.zero_add]; exact hc j hj) A W⟩, h2, h3⟩
/-- the new land, on either side -/
theorem r_land (hz : zW z) (hx : xLn f g L z t.isSome) (hl : ∀ a k, a < 8 → l a k = f (L + a) k) (e0 : f' 210 0 = nI (zN z)) (e1 : f' 210 1 = nI (zD z)) (e2 : f' 210 2 = nI (zP z)) (er : ∀ r, r < zN z → f' 212 r = nI (zHo z r) ∧ f' 213 r = zDr z r) (ep : ∀ p, p < zP z → f' 215 p = nI (zKi z p) ∧ f' 216 p = nI (zAg z p) ∧ f' 217 p = nI (zHm z p)) : rL f' 208 l (zN z) (zP z) := by
  obtain ⟨⟨z1, z2, z3⟩, b1, b2, b3, b4, b5, b6⟩ := hz
  obtain ⟨⟨x1, x2, x3, x4, x5⟩, y1, y2, y3⟩ := hx
  have u9 : ∀ i, i < 32 → bt (l 0 9) i = (decide (i < zN z) && decide (0 < zHo z i)) := fun i hi => by
    rw [hl 0 9 (by decide), show f (L + 0) 9 = zUn z from x2]
    exact sB_bt (fun r => decide (0 < zHo z r)) (zN z) (by omega) i hi
  have l3 : ∀ r, r < 8 → l 3 r = zDr z r := fun r hr => (hl 3 r (by decide)).trans (y2 r hr)
  refine ⟨⟨z1, z2⟩, ⟨(hl 0 10 (by decide)).trans x3, (hl 0 12 (by decide)).trans x5, e0, e2, e1.trans ((hl 0 11 (by decide)).trans x4).symm⟩, fun r hr => ⟨?_, ?_, ?_⟩, fun i h1 h2 => ?_, fun r i h1 h2 h3 => ?_, fun r k h1 h2 => ?_, fun r k h1 h2 h3 h4 => ?_, fun p hp => ⟨?_, ?_, ?_, zHm z p, (b2 p hp).2.2.2.1, ?_, ?_⟩⟩
  · exact (er r hr).1.trans ((hl 2 r (by decide)).trans (y1 r hr).2).symm
  · exact (er r hr).2.trans (l3 r (by omega)).symm
  · have h20 := (b1 r hr).2
    rw [u9 r (by omega), decide_eq_true hr, Bool.true_and, hl 2 r (by decide), show f (L + 2) r = nI (zHo z r) from (y1 r hr).2, show decide (nI (zHo z r) ≤ (0 : Int32)) = decide (zHo z r ≤ 0) from d_le (b := 0) (by omega) (by decide)]
    by_cases h : 0 < zHo z r
    · rw [decide_eq_true h, decide_eq_false (by omega)]; rfl
    · rw [decide_eq_false h, decide_eq_true (by omega)]; rfl
  · rw [u9 i h2, decide_eq_false (by omega), Bool.false_and]
  · rw [l3 r (by omega)]; exact b4 r i h1 h2 h3
  · rw [l3 r (by omega), l3 k (by omega)]; exact b5 r k h1 h2
  · rw [l3 r (by omega)] at h3
    rw [u9 r (by omega), decide_eq_true h1, Bool.true_and, decide_eq_true_eq] at h4
    rw [u9 k (by omega), b6 r k h1 h2 h3 h4, decide_eq_false (Nat.lt_irrefl 0), Bool.and_false]
  · exact (ep p hp).1.trans ((hl 5 p (by decide)).trans (y3 p hp).2.1).symm
  · exact (ep p hp).2.1.trans ((hl 6 p (by decide)).trans (y3 p hp).2.2.1).symm
  · exact (ep p hp).2.2.trans ((hl 7 p (by decide)).trans (y3 p hp).2.2.2).symm
  · exact (hl 7 p (by decide)).trans (y3 p hp).2.2.2
  · have h4 := (b2 p hp).2.2.2.1
    rw [u9 _ (by omega), (b2 p hp).2.2.2.2, decide_eq_false (Nat.lt_irrefl 0), Bool.and_false]
end URMY

/-! BEGIN ANEW: the objects change places, the rows are shifted -/
section URAN
variable {s : List (Nat ⊕ (Nat × Nat))} {f f' f1 f2 l V : Nat → Nat → Int32} {g g' : Nat → Nat → Int64} {R R' : Nat → Nat → Option Nat} {L L' K K' N P d a n i k : Nat}
theorem ur_ung {α : Type} {h : Nat → Nat → α} {a k j : Nat} {v : α} (hj : j ≠ k) : ur_u h a k v a j = h a j := by unfold ur_u; rw [if_pos rfl, if_neg hj]
theorem oLand_R (hR : ∀ b, b ≠ 0 → R' b = R b) (ha : a ≠ 0) (h : oLand s R a) : oLand s R' a := by
  unfold oLand oLaw at h ⊢
  rw [hR a ha, hR (a + 8) (by omega)]
  exact h
theorem oNight_R (hR : ∀ b, b ≠ 0 → R' b = R b) (ha : a ≠ 0) (h : oNight s R a) : oNight s R' a := by
  unfold oNight at h ⊢
  rw [hR a ha]
  exact h
theorem oScript_R (hR : ∀ b, b ≠ 0 → R' b = R b) (ha : a ≠ 0) (h : oScript s R a) : oScript s R' a := by
  unfold oScript at h ⊢
  rw [hR a ha]
  exact h
theorem oSeen_R (hR : ∀ b, b ≠ 0 → R' b = R b) (ha : a ≠ 0) (h : oSeen s R a) : oSeen s R' a := by
  unfold oSeen at h ⊢
  rw [hR a ha]
  exact h
theorem oTape_R (hR : ∀ b, b ≠ 0 → R' b = R b) (ha : a ≠ 0) (h : oTape s R a) : oTape s R' a := by
  unfold oTape at h ⊢
  rw [hR a ha]
  exact h
theorem oLine_R (hR : ∀ b, b ≠ 0 → R' b = R b) (ha : a ≠ 0) (h : oLine s R a) : oLine s R' a := by
  unfold oLine at h ⊢
  rw [hR a ha]
  exact h
theorem oMark_R (hR : ∀ b, b ≠ 0 → R' b = R b) (ha : a ≠ 0) (h : oMark s R a) : oMark s R' a := by
  obtain ⟨h1, h2, h3, h4, h5, h6, h7, h8⟩ := h
  exact ⟨h1, by rw [hR a ha]; exact h2, by rw [hR a ha]; exact h3, by rw [hR a ha]; exact h4, oNight_R hR (by omega) h5, oScript_R hR (by omega) h6, oSeen_R hR (by omega) h7, h8⟩
theorem oModel_R (hR : ∀ b, b ≠ 0 → R' b = R b) (ha : a ≠ 0) (h : oModel s R a) : oModel s R' a := by
  unfold oModel at h ⊢
  rw [hR a ha]
  exact h
theorem oX.turn {A A' B B' : Nat} (h : oX s R L L' K K') (hR : ∀ b, b ≠ 0 → R' b = R b) (h0 : ∀ k, k = 0 ∨ 5 ≤ k → R' 0 k = R 0 k) (r1 : R' 0 1 = some A) (r2 : R' 0 2 = some A') (r3 : R' 0 3 = some B) (r4 : R' 0 4 = some B') (hA : (A = L ∧ A' = L') ∨ (A = L' ∧ A' = L)) (hB : (B = K ∧ B' = K') ∨ (B = K' ∧ B' = K)) : oX s R' A A' B B' := by
  obtain ⟨⟨a1, a2, a3, a4, a5, a6, a7, a8, a9, a10, a11, a12, a13, a14⟩, ⟨b1, b2, b3, b4, b5, b6, b7, b8, b9, b10, b11, b12, b13⟩, c1, c2, c3, c4, c5⟩ := h
  have lA : oLand s R' L := oLand_R hR (by omega) b2
  have lB : oLand s R' L' := oLand_R hR (by omega) b3
  have sA : oScript s R' K := oScript_R hR (by omega) b4
  have sB' : oScript s R' K' := oScript_R hR (by omega) b5
  refine ⟨⟨a1, by rw [h0 0 (by omega)]; exact a2, r1, r2, r3, r4, by rw [h0 5 (by omega)]; exact a7, by rw [h0 6 (by omega)]; exact a8, by rw [h0 7 (by omega)]; exact a9, by rw [h0 8 (by omega)]; exact a10, by rw [h0 11 (by omega)]; exact a11, by rw [h0 12 (by omega)]; exact a12, by rw [h0 13 (by omega)]; exact a13, by rw [h0 14 (by omega)]; exact a14⟩, ⟨oTape_R hR (by decide) b1, ?_, ?_, ?_, ?_, oNight_R hR (by decide) b6, oNight_R hR (by decide) b7, oSeen_R hR (by decide) b8, b9, b10, oLine_R hR (by decide) b11, b12, b13⟩, fun i hi => ⟨by rw [hR 48 (by decide)]; exact (c1 i hi).1, oNight_R hR (by omega) (c1 i hi).2⟩, fun i hi => ⟨by rw [hR 49 (by decide)]; exact (c2 i hi).1, oMark_R hR (by omega) (c2 i hi).2⟩, oModel_R hR (by decide) c3, by omega, by omega⟩
  · rcases hA with ⟨e, -⟩ | ⟨e, -⟩ <;> rw [e] <;> assumption
  · rcases hA with ⟨-, e⟩ | ⟨-, e⟩ <;> rw [e] <;> assumption
  · rcases hB with ⟨e, -⟩ | ⟨e, -⟩ <;> rw [e] <;> assumption
  · rcases hB with ⟨-, e⟩ | ⟨-, e⟩ <;> rw [e] <;> assumption
theorem oX.swL (h : oX s R L L' K K') : oX s (ur_u (ur_u R 0 1 (some L')) 0 2 (some L)) L' L K K' := by
  refine h.turn (fun b hb => by rw [ur_uag hb, ur_uag hb]) (fun k hk => by rw [ur_ung (by omega), ur_ung (by omega)]) ?_ ur_usg ?_ ?_ (Or.inr ⟨rfl, rfl⟩) (Or.inl ⟨rfl, rfl⟩)
  · rw [ur_ung (by decide)]; exact ur_usg
  · rw [ur_ung (by decide), ur_ung (by decide)]; exact h.1.2.2.2.2.1
  · rw [ur_ung (by decide), ur_ung (by decide)]; exact h.1.2.2.2.2.2.1
theorem oX.swK (h : oX s R L L' K K') : oX s (ur_u (ur_u R 0 3 (some K')) 0 4 (some K)) L L' K' K := by
  refine h.turn (fun b hb => by rw [ur_uag hb, ur_uag hb]) (fun k hk => by rw [ur_ung (by omega), ur_ung (by omega)]) ?_ ?_ ?_ ur_usg (Or.inl ⟨rfl, rfl⟩) (Or.inr ⟨rfl, rfl⟩)
  · rw [ur_ung (by decide), ur_ung (by decide)]; exact h.1.2.2.1
  · rw [ur_ung (by decide), ur_ung (by decide)]; exact h.1.2.2.2.1
  · rw [ur_ung (by decide)]; exact ur_usg
theorem m_shifts (h : s[a]? = some (.inr (0, n + n))) (hn : n + n < 2 ^ 31) : ∃ f', ur_call ur_G (d + 1) 169 [.ref a, .int (nI n)] (s, f, g, R) = some (0, (s, f', g, R)) ∧ (∀ k, k < n → f' a k = f a (n + k)) ∧ eqT (fun i k => i = a ∧ k < n) f f' := by
  have main := lp (n := n) (Fn := fun j (f' : Nat → Nat → Int32) => ur_at ur_G d 169 (2, [some (.ref a), some (.int (nI n)), some (.int (nI j))], [], (s, f', g, R)))
    (I := fun j f' => (∀ k, k < j → f' a k = f a (n + k)) ∧ eqT (fun i k => i = a ∧ k < j) f f')
    (Q := fun r => r.1 = 0 ∧ ∃ f', r.2 = (s, f', g, R) ∧ (∀ k, k < n → f' a k = f a (n + k)) ∧ eqT (fun i k => i = a ∧ k < n) f f') ?_ ?_ f ⟨fun k hk => absurd hk (by omega), eqT.refl⟩
  · obtain ⟨⟨v', m⟩, e1, e2, f', e3, e4, e5⟩ := main
    dsimp only at e2 e3
    subst e2 e3
    exact ⟨f', ur_cl rfl rfl (e_X10_shifts_0 _ _ _ e1), e4, e5⟩
  · intro j f1 hj ⟨i1, i2⟩
    refine ⟨ur_u f1 a j (f a (n + j)), ⟨fun k hk => ?_, (i2.mono (fun x k z => by omega)).u ⟨rfl, by omega⟩⟩, fun r hr => e_X10_shifts_2 _ _ _ _ ?_⟩
    · by_cases e : k = j
      · rw [e, ur_us]
      · rw [ur_un e]; exact i1 k (by omega)
    · rw [d_le (by omega) (by omega), decide_eq_false (show ¬ n ≤ j by omega), cond_false, nI_add, vaI h (by omega) hn, Option.bind_some, i2 _ _ (by omega), vwI h (by omega) hn, Option.bind_some, nI_1]
      exact hr
  · intro f1 ⟨i1, i2⟩
    refine ⟨(0, (s, f1, g, R)), e_X10_shifts_2 _ _ _ _ ?_, rfl, f1, rfl, i1, i2⟩
    rw [d_le (by omega) (by omega), decide_eq_true (Nat.le_refl n), cond_true]
theorem m_shiftsN (h : s[a]? = some (.inr (1, n + n))) (hn : n + n < 2 ^ 31) : ∃ g', ur_call ur_G (d + 1) 170 [.ref a, .int (nI n)] (s, f, g, R) = some (0, (s, f, g', R)) ∧ (∀ k, k < n → g' a k = g a (n + k)) ∧ eqL (fun i k => i = a ∧ k < n) g g' := by
  have main := lp (n := n) (Fn := fun j (g' : Nat → Nat → Int64) => ur_at ur_G d 170 (2, [some (.ref a), some (.int (nI n)), some (.int (nI j))], [], (s, f, g', R)))
    (I := fun j g' => (∀ k, k < j → g' a k = g a (n + k)) ∧ eqL (fun i k => i = a ∧ k < j) g g')
    (Q := fun r => r.1 = 0 ∧ ∃ g', r.2 = (s, f, g', R) ∧ (∀ k, k < n → g' a k = g a (n + k)) ∧ eqL (fun i k => i = a ∧ k < n) g g') ?_ ?_ g ⟨fun k hk => absurd hk (by omega), eqL.refl⟩
  · obtain ⟨⟨v', m⟩, e1, e2, g', e3, e4, e5⟩ := main
    dsimp only at e2 e3
    subst e2 e3
    exact ⟨g', ur_cl rfl rfl (e_X10_shiftsNames_0 _ _ _ e1), e4, e5⟩
  · intro j g1 hj ⟨i1, i2⟩
    refine ⟨ur_u g1 a j (g a (n + j)), ⟨fun k hk => ?_, (i2.mono (fun x k z => by omega)).u ⟨rfl, by omega⟩⟩, fun r hr => e_X10_shiftsNames_2 _ _ _ _ ?_⟩
    · by_cases e : k = j
      · rw [e, ur_usg]
      · rw [ur_ung e]; exact i1 k (by omega)
    · rw [d_le (by omega) (by omega), decide_eq_false (show ¬ n ≤ j by omega), cond_false, nI_add, vaL h (by omega) hn, Option.bind_some, i2 _ _ (by omega), vwL h (by omega) hn, Option.bind_some, nI_1]
      exact hr
  · intro g1 ⟨i1, i2⟩
    refine ⟨(0, (s, f, g1, R)), e_X10_shiftsNames_2 _ _ _ _ ?_, rfl, g1, rfl, i1, i2⟩
    rw [d_le (by omega) (by omega), decide_eq_true (Nat.le_refl n), cond_true]
def TAn (K : Nat) : Nat → Nat → Prop := fun a k => (33 ≤ a ∧ a < 39) ∨ (a = K ∧ k = 3) ∨ (a = 45 ∧ k = 3) ∨ (a = 0 ∧ k = 10) ∨ (152 ≤ a ∧ a < 208 ∧ k = 3 ∧ (a - 152) % 14 = 0)
theorem x_anew (hX : oX s R L L' K K') (hl : bL f L l) : ∃ f', ur_call ur_G (d + 4) 84 [.ref 0] (s, f, g, R) = some (0, (s, f', g, R)) ∧ bgN (blk f' 33) l ∧ f' K 3 = 0 ∧ f' 45 3 = 0 ∧ f' 0 10 = 0 ∧ (∀ i, i < 4 → f' (152 + 14 * i) 3 = 0) ∧ eqT (TAn K) f f' := by
  have hL := hX.eL
  have hK := hX.eK
  obtain ⟨f1, a1, a2, a3⟩ := c_begin (d := d + 1) (f := f) (g := g) hX.now hX.land hl (by omega)
  obtain ⟨f2, hf2⟩ : ∃ f2, f2 = ur_u (ur_u (ur_u f1 K 3 0) 45 3 0) 0 10 0 := ⟨_, rfl⟩
  have t2 : eqT (fun a k => (a = K ∧ k = 3) ∨ (a = 45 ∧ k = 3) ∨ (a = 0 ∧ k = 10)) f1 f2 := by
    rw [hf2]
    exact ((eqT_u (by omega)).u (by omega)).u (by omega)
  have main := lp (n := 4) (Fn := fun j (f' : Nat → Nat → Int32) => ur_at ur_G (d + 3) 84 (34, [some (.ref 0), some (.int (nI j))], [], (s, f', g, R)))
    (I := fun j f' => (∀ i, i < j → f' (152 + 14 * i) 3 = 0) ∧ eqT (fun a k => 152 ≤ a ∧ a < 208 ∧ k = 3 ∧ (a - 152) % 14 = 0) f2 f')
    (Q := fun r => r.1 = 0 ∧ ∃ f', r.2 = (s, f', g, R) ∧ (∀ i, i < 4 → f' (152 + 14 * i) 3 = 0) ∧ eqT (fun a k => 152 ≤ a ∧ a < 208 ∧ k = 3 ∧ (a - 152) % 14 = 0) f2 f') ?_ ?_ f2 ⟨fun k hk => absurd hk (by omega), eqT.refl⟩
  · obtain ⟨⟨v', m⟩, e1, e2, f', e3, e4, e5⟩ := main
    dsimp only at e2 e3
    subst e2 e3
    refine ⟨f', ur_cl hX.rcv rfl (e_X9_beginAnew_0 _ _ ?_), ?_, ?_, ?_, ?_, e4, ((a3.mono (fun a k z => by unfold TN at z; unfold TAn; omega)).trans (t2.mono (fun a k z => by unfold TAn; omega))).trans (e5.mono (fun a k z => by unfold TAn; omega))⟩
    · simp only [hX.r5, hX.r1, Option.bind_some, a1, hX.r3, hX.scr.pI, hX.r7, hX.seen.pI, hX.pI, ← hf2]
      exact e1
    · have row : ∀ j, j < 6 → f' (33 + j) = f1 (33 + j) := fun j hj => by
        rw [e5.row (fun k z => by omega), t2.row (fun k z => by omega)]
      have eb : ∀ j k, j < 6 → blk f' 33 j k = blk f1 33 j k := fun j k hj => by
        show f' (33 + j) k = f1 (33 + j) k
        rw [row j hj]
      obtain ⟨b1, b2, b3, b4, b5⟩ := a2
      refine ⟨fun p hp => ?_, ?_, ?_, ?_, ?_⟩
      · rw [eb 1 p (by decide), eb 3 p (by decide), eb 2 p (by decide), eb 4 p (by decide), eb 5 p (by decide)]; exact b1 p hp
      · rw [eb 0 5 (by decide)]; exact b2
      · rw [eb 0 6 (by decide)]; exact b3
      · rw [eb 0 7 (by decide)]; exact b4
      · rw [eb 0 8 (by decide)]; exact b5
    · rw [e5 _ _ (by omega), hf2, ur_ua (by omega), ur_ua (by omega)]; exact ur_us
    · rw [e5 _ _ (by omega), hf2, ur_ua (by decide)]; exact ur_us
    · rw [e5 _ _ (by omega), hf2]; exact ur_us
  · intro j f3 hj ⟨i1, i2⟩
    refine ⟨ur_u f3 (152 + 14 * j) 3 0, ⟨fun k hk => ?_, i2.u (by omega)⟩, fun r hr => e_X9_beginAnew_34 _ _ _ ?_⟩
    · by_cases e : k = j
      · rw [e, ur_us]
      · rw [ur_ua (by omega)]; exact i1 k (by omega)
    · have pz : ur_pZ (s, f3, g, R) (152 + 14 * j) 4 3 (0 : Int32) = some (s, ur_u f3 (152 + 14 * j) 3 0, g, R) := vpZ (hX.markM hj).o (Or.inl rfl)
      simp only [show decide ((4 : Int32) ≤ nI j) = false from (d_le (a := 4) (by decide) (by omega)).trans (decide_eq_false (by omega)), cond_false, hX.r11, Option.bind_some, hX.mark hj, pz, nI_1]
      exact hr
  · intro f3 ⟨i1, i2⟩
    refine ⟨(0, (s, f3, g, R)), e_X9_beginAnew_34 _ _ _ ?_, rfl, f3, rfl, i1, i2⟩
    simp only [show decide ((4 : Int32) ≤ nI 4) = true from by decide, cond_true]
end URAN

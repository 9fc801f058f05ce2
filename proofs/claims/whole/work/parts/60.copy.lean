/-! Copies of lines and of what is seen -/
section URC0
variable {s : List (Nat ⊕ (Nat × Nat))} {f f' f1 f2 l V V' : Nat → Nat → Int32} {g : Nat → Nat → Int64} {R : Nat → Nat → Option Nat} {A B K K' d b j p P N k a i i0 i1 z : Nat}
theorem scR.cp (h : scR f K i0 N P) (e3 : f' K' 3 = f K 3) (ec : ∀ i k, 1 ≤ i → i ≤ 3 → k < 40 → f' (K' + i) k = f (K + i) k) (em0 : f' 233 i1 = f 233 i0) (em : ∀ a k, 234 ≤ a → a ≤ 236 → k < 40 → f' a (40 * i1 + k) = f a (40 * i0 + k)) : scR f' K' i1 N P := by
  obtain ⟨z, h1, h2, h3, h4⟩ := h
  refine ⟨z, h1, by rw [e3, h2], by rw [em0, h3], fun i hi => ?_⟩
  obtain ⟨k, p, j, c1, c2, c3, c4⟩ := h4 i hi
  refine ⟨k, p, j, ?_, ?_, ?_, ?_⟩
  · rw [ec 1 i (by decide) (by decide) (by omega), c1]
  · rw [em 234 i (by decide) (by decide) (by omega), c2]
  · rw [ec 2 i (by decide) (by decide) (by omega), ec 3 i (by decide) (by decide) (by omega)]; exact c3
  · rw [em 235 i (by decide) (by decide) (by omega), em 236 i (by decide) (by decide) (by omega)]; exact c4
theorem seR.cp {a0 a1 : Nat} (h : seR f a0 i0 P) (e3 : f' a1 3 = f a0 3) (e2 : f' a1 2 = f a0 2) (ec : ∀ i k, 1 ≤ i → i ≤ 2 → k < 8 → f' (a1 + i) k = f (a0 + i) k) (em0 : f' 237 i1 = f 237 i0) (em : ∀ a k, 238 ≤ a → a ≤ 239 → k < 8 → f' a (8 * i1 + k) = f a (8 * i0 + k)) (en : ∀ k, k < 8 → f' 240 (8 * i1 + k) = vp_nar .boolean (f 240 (8 * i0 + k))) : seR f' a1 i1 P := by
  obtain ⟨z, h1, h2, h3, h4⟩ := h
  refine ⟨z, h1, by rw [e3, h2], by rw [em0, h3], fun i hi => ?_⟩
  obtain ⟨p, k, c1, c2, c3, c4, c5, c6, c7, c8⟩ := h4 i hi
  refine ⟨p, k, c1, ?_, ?_, c4, c5, ?_, ?_, ?_⟩
  · rw [ec 1 i (by decide) (by decide) (by omega), c2]
  · rw [em 238 i (by decide) (by decide) (by omega), c3]
  · rw [ec 2 i (by decide) (by decide) (by omega), c6]
  · rw [em 239 i (by decide) (by decide) (by omega), c7]
  · rw [en i (by omega), e2, c8, nar_b]
theorem va_c (n : Nat) (A B : Nat → Int32) (k : Nat) (hk : k < n) : va_cpy A B 0 0 n k = A k := by
  unfold va_cpy
  rw [if_pos (by omega), Nat.zero_add, Nat.sub_zero]
theorem c_copyS (hA : oScript s R A) (hB : oScript s R B) (hd : A + 4 ≤ B ∨ B + 4 ≤ A) : ∃ f', ur_call ur_G (d + 1) 63 [.ref A, .ref B] (s, f, g, R) = some (0, (s, f', g, R)) ∧ f' A 3 = f B 3 ∧ (∀ i k, 1 ≤ i → i ≤ 3 → k < 40 → f' (A + i) k = f (B + i) k) ∧ eqT (fun a _ => A ≤ a ∧ a < A + 4) f f' := by
  have c : ∀ (i : Nat) (f : Nat → Nat → Int32), s[B + i]? = some (.inr (0, 40)) → s[A + i]? = some (.inr (0, 40)) → ur_cpy (s, f, g, R) (B + i) 0 (A + i) 0 40 = some (s, ur_row f (A + i) (va_cpy (f (B + i)) (f (A + i)) 0 0 40), g, R) := fun i f h1 h2 => vcpy (n := 40) h1 h2 (by decide) (by decide) (by decide)
  have c1 := fun f => c 1 f hB.s1 hA.s1
  have c2 := fun f => c 2 f hB.s2 hA.s2
  have c3 := fun f => c 3 f hB.s3 hA.s3
  obtain ⟨f1, hf1⟩ : ∃ f1, f1 = ur_u f A 3 (f B 3) := ⟨_, rfl⟩
  obtain ⟨f2, hf2⟩ : ∃ f2, f2 = ur_row f1 (A + 1) (va_cpy (f1 (B + 1)) (f1 (A + 1)) 0 0 40) := ⟨_, rfl⟩
  obtain ⟨f3, hf3⟩ : ∃ f3, f3 = ur_row f2 (A + 2) (va_cpy (f2 (B + 2)) (f2 (A + 2)) 0 0 40) := ⟨_, rfl⟩
  obtain ⟨f4, hf4⟩ : ∃ f4, f4 = ur_row f3 (A + 3) (va_cpy (f3 (B + 3)) (f3 (A + 3)) 0 0 40) := ⟨_, rfl⟩
  have t1 : eqT (fun a _ => A ≤ a ∧ a < A + 4) f f1 := by rw [hf1]; exact eqT_u (by omega)
  have t2 : eqT (fun a _ => A ≤ a ∧ a < A + 4) f f2 := t1.trans (by rw [hf2]; exact eqT_row (fun k => by omega))
  have t3 : eqT (fun a _ => A ≤ a ∧ a < A + 4) f f3 := t2.trans (by rw [hf3]; exact eqT_row (fun k => by omega))
  have t4 : eqT (fun a _ => A ≤ a ∧ a < A + 4) f f4 := t3.trans (by rw [hf4]; exact eqT_row (fun k => by omega))
  refine ⟨f4, ur_cl hA.rcv rfl (e_X6_copyFrom_0 _ _ _ ?_), ?_, fun i k h1 h2 h3 => ?_, t4⟩
  · simp only [hB.I, hA.pI, Option.bind_some, ← hf1, hB.r0, hA.r0, c1, ← hf2, hB.r1, hA.r1, c2, ← hf3, hB.r2, hA.r2, c3, ← hf4]
  · rw [hf4, ur_ra (by omega), hf3, ur_ra (by omega), hf2, ur_ra (by omega), hf1, ur_us]
  · have : i = 1 ∨ i = 2 ∨ i = 3 := by omega
    rcases this with rfl | rfl | rfl
    · rw [hf4, ur_ra (by omega), hf3, ur_ra (by omega), hf2, ur_rs, va_c _ _ _ _ h3, t1.row (fun k z => by omega)]
    · rw [hf4, ur_ra (by omega), hf3, ur_rs, va_c _ _ _ _ h3, t2.row (fun k z => by omega)]
    · rw [hf4, ur_rs, va_c _ _ _ _ h3, t3.row (fun k z => by omega)]
theorem c_copyE (hA : oSeen s R A) (hB : oSeen s R B) (hd : A + 3 ≤ B ∨ B + 3 ≤ A) : ∃ f', ur_call ur_G (d + 1) 70 [.ref A, .ref B] (s, f, g, R) = some (0, (s, f', g, R)) ∧ f' A 3 = f B 3 ∧ f' A 2 = f B 2 ∧ (∀ i k, 1 ≤ i → i ≤ 2 → k < 8 → f' (A + i) k = f (B + i) k) ∧ eqT (fun a _ => A ≤ a ∧ a < A + 3) f f' := by
  have c : ∀ (i : Nat) (f : Nat → Nat → Int32), s[B + i]? = some (.inr (0, 8)) → s[A + i]? = some (.inr (0, 8)) → ur_cpy (s, f, g, R) (B + i) 0 (A + i) 0 8 = some (s, ur_row f (A + i) (va_cpy (f (B + i)) (f (A + i)) 0 0 8), g, R) := fun i f h1 h2 => vcpy (n := 8) h1 h2 (by decide) (by decide) (by decide)
  have c1 := fun f => c 1 f hB.s1 hA.s1
  have c2 := fun f => c 2 f hB.s2 hA.s2
  obtain ⟨f1, hf1⟩ : ∃ f1, f1 = ur_u f A 3 (f B 3) := ⟨_, rfl⟩
  obtain ⟨f2, hf2⟩ : ∃ f2, f2 = ur_row f1 (A + 1) (va_cpy (f1 (B + 1)) (f1 (A + 1)) 0 0 8) := ⟨_, rfl⟩
  obtain ⟨f3, hf3⟩ : ∃ f3, f3 = ur_row f2 (A + 2) (va_cpy (f2 (B + 2)) (f2 (A + 2)) 0 0 8) := ⟨_, rfl⟩
  have t1 : eqT (fun a _ => A ≤ a ∧ a < A + 3) f f1 := by rw [hf1]; exact eqT_u (by omega)
  have t2 : eqT (fun a _ => A ≤ a ∧ a < A + 3) f f2 := t1.trans (by rw [hf2]; exact eqT_row (fun k => by omega))
  have t3 : eqT (fun a _ => A ≤ a ∧ a < A + 3) f f3 := t2.trans (by rw [hf3]; exact eqT_row (fun k => by omega))
  have eB : f3 B = f B := t3.row (fun k z => by omega)
  refine ⟨ur_u f3 A 2 (f B 2), ur_cl hA.rcv rfl (e_X7_copyFrom_0 _ _ _ ?_), ?_, ur_us, fun i k h1 h2 h3 => ?_, t3.u (by omega)⟩
  · simp only [hB.I, hA.pI, Option.bind_some, ← hf1, hB.r0, hA.r0, c1, ← hf2, hB.r1, hA.r1, c2, ← hf3, eB]
  · rw [ur_un (by decide), hf3, ur_ra (by omega), hf2, ur_ra (by omega), hf1, ur_us]
  · have : i = 1 ∨ i = 2 := by omega
    rw [ur_ua (by omega)]
    rcases this with rfl | rfl
    · rw [hf3, ur_ra (by omega), hf2, ur_rs, va_c _ _ _ _ h3, t1.row (fun k z => by omega)]
    · rw [hf3, ur_rs, va_c _ _ _ _ h3, t2.row (fun k z => by omega)]
theorem nI_40 : ∀ i, i < 6 → (40 : Int32) * nI i = nI (40 * i) := by decide +kernel
theorem nI_8 : ∀ i, i < 6 → (8 : Int32) * nI i = nI (8 * i) := by decide +kernel
theorem m_laysLines (hM : oModel s R b) (hi : i < 6) (hj : j < 6) (hij : i ≠ j) : ∃ f', ur_call ur_G (d + 1) 174 [.ref b, .int (nI i), .int (nI j)] (s, f, g, R) = some (0, (s, f', g, R)) ∧ f' (b + 25) j = f (b + 25) i ∧ (∀ a k, 26 ≤ a → a ≤ 28 → k < 40 → f' (b + a) (40 * j + k) = f (b + a) (40 * i + k)) ∧ eqT (fun a k => (a = b + 25 ∧ k = j) ∨ (b + 26 ≤ a ∧ a ≤ b + 28 ∧ 40 * j ≤ k ∧ k < 40 * j + 40)) f f' := by
  obtain ⟨T, hT⟩ : ∃ T : Nat → Nat → Prop, T = fun a k => (a = b + 25 ∧ k = j) ∨ (b + 26 ≤ a ∧ a ≤ b + 28 ∧ 40 * j ≤ k ∧ k < 40 * j + 40) := ⟨_, rfl⟩
  rw [← hT]
  have main := lp (n := 40) (Fn := fun q (f' : Nat → Nat → Int32) => ur_at ur_G d 174 (14, [some (.ref b), some (.int (nI i)), some (.int (nI j)), some (.int (nI q))], [], (s, f', g, R)))
    (I := fun q f' => f' (b + 25) j = f (b + 25) i ∧ (∀ a k, 26 ≤ a → a ≤ 28 → k < q → f' (b + a) (40 * j + k) = f (b + a) (40 * i + k)) ∧ eqT T f f')
    (Q := fun r => r.1 = 0 ∧ ∃ f', r.2 = (s, f', g, R) ∧ f' (b + 25) j = f (b + 25) i ∧ (∀ a k, 26 ≤ a → a ≤ 28 → k < 40 → f' (b + a) (40 * j + k) = f (b + a) (40 * i + k)) ∧ eqT T f f') ?_ ?_ (ur_u f (b + 25) j (f (b + 25) i)) ⟨ur_us, fun a k _ _ hk => absurd hk (by omega), eqT_u (by rw [hT]; omega)⟩
  · obtain ⟨⟨v', m⟩, e1, e2, f', e3, e4, e5, e6⟩ := main
    dsimp only at e2 e3
    subst e2 e3
    refine ⟨f', ur_cl hM.rcv rfl (e_X10_laysLines_0 _ _ _ _ ?_), e4, e5, e6⟩
    simp only [hM.r36, Option.bind_some, hM.a25 hi, hM.w25 hj]
    exact e1
  · intro q f1 hq ⟨i1, i2, i3⟩
    have src : ∀ a, 26 ≤ a → a ≤ 28 → f1 (b + a) (40 * i + q) = f (b + a) (40 * i + q) := fun a h1 h2 => i3 _ _ (by rw [hT]; omega)
    refine ⟨ur_u (ur_u (ur_u f1 (b + 26) (40 * j + q) (f (b + 26) (40 * i + q))) (b + 27) (40 * j + q) (f (b + 27) (40 * i + q))) (b + 28) (40 * j + q) (f (b + 28) (40 * i + q)), ⟨?_, fun a k h1 h2 h3 => ?_, ((i3.u (by rw [hT]; omega)).u (by rw [hT]; omega)).u (by rw [hT]; omega)⟩, fun r hr => e_X10_laysLines_14 _ _ _ _ _ ?_⟩
    · rw [ur_ua (by omega), ur_ua (by omega), ur_ua (by omega)]; exact i1
    · by_cases hkq : k = q
      · subst hkq
        have : a = 26 ∨ a = 27 ∨ a = 28 := by omega
        rcases this with rfl | rfl | rfl
        · rw [ur_ua (by omega), ur_ua (by omega), ur_us]
        · rw [ur_ua (by omega), ur_us]
        · rw [ur_us]
      · have old := i2 a k h1 h2 (by omega)
        have : a = 26 ∨ a = 27 ∨ a = 28 := by omega
        rcases this with rfl | rfl | rfl
        · rw [ur_ua (by omega), ur_ua (by omega), ur_un (by omega)]; exact old
        · rw [ur_ua (by omega), ur_un (by omega), ur_ua (by omega)]; exact old
        · rw [ur_un (by omega), ur_ua (by omega), ur_ua (by omega)]; exact old
    · rw [show decide ((40 : Int32) ≤ nI q) = false from decide_eq_false (nI_ge (b := 40) hq (by decide)), cond_false]
      simp only [nI_40 i hi, nI_40 j hj, nI_add, hM.r37, hM.r38, hM.r39, Option.bind_some, hM.a26 (show 40 * i + q < 240 by omega), hM.w26 (show 40 * j + q < 240 by omega), hM.a27 (show 40 * i + q < 240 by omega), hM.w27 (show 40 * j + q < 240 by omega), hM.a28 (show 40 * i + q < 240 by omega), hM.w28 (show 40 * j + q < 240 by omega), ur_ua (show b + 27 ≠ b + 26 by omega), ur_ua (show b + 28 ≠ b + 26 by omega), ur_ua (show b + 28 ≠ b + 27 by omega), src 26 (by decide) (by decide), src 27 (by decide) (by decide), src 28 (by decide) (by decide), nI_1]
      exact hr
  · intro f1 ⟨i1, i2, i3⟩
    exact ⟨(0, (s, f1, g, R)), e_X10_laysLines_14 _ _ _ _ _ rfl, rfl, f1, rfl, i1, i2, i3⟩
theorem m_laysSeen (hM : oModel s R b) (hi : i < 5) (hj : j < 5) (hij : i ≠ j) : ∃ f', ur_call ur_G (d + 1) 175 [.ref b, .int (nI i), .int (nI j)] (s, f, g, R) = some (0, (s, f', g, R)) ∧ f' (b + 29) j = f (b + 29) i ∧ (∀ a k, 30 ≤ a → a ≤ 31 → k < 8 → f' (b + a) (8 * j + k) = f (b + a) (8 * i + k)) ∧ (∀ k, k < 8 → f' (b + 32) (8 * j + k) = vp_nar .boolean (f (b + 32) (8 * i + k))) ∧ eqT (fun a k => (a = b + 29 ∧ k = j) ∨ (b + 30 ≤ a ∧ a ≤ b + 32 ∧ 8 * j ≤ k ∧ k < 8 * j + 8)) f f' := by
  obtain ⟨T, hT⟩ : ∃ T : Nat → Nat → Prop, T = fun a k => (a = b + 29 ∧ k = j) ∨ (b + 30 ≤ a ∧ a ≤ b + 32 ∧ 8 * j ≤ k ∧ k < 8 * j + 8) := ⟨_, rfl⟩
  rw [← hT]
  have main := lp (n := 8) (Fn := fun q (f' : Nat → Nat → Int32) => ur_at ur_G d 175 (14, [some (.ref b), some (.int (nI i)), some (.int (nI j)), some (.int (nI q))], [], (s, f', g, R)))
    (I := fun q f' => f' (b + 29) j = f (b + 29) i ∧ (∀ a k, 30 ≤ a → a ≤ 31 → k < q → f' (b + a) (8 * j + k) = f (b + a) (8 * i + k)) ∧ (∀ k, k < q → f' (b + 32) (8 * j + k) = vp_nar .boolean (f (b + 32) (8 * i + k))) ∧ eqT T f f')
    (Q := fun r => r.1 = 0 ∧ ∃ f', r.2 = (s, f', g, R) ∧ f' (b + 29) j = f (b + 29) i ∧ (∀ a k, 30 ≤ a → a ≤ 31 → k < 8 → f' (b + a) (8 * j + k) = f (b + a) (8 * i + k)) ∧ (∀ k, k < 8 → f' (b + 32) (8 * j + k) = vp_nar .boolean (f (b + 32) (8 * i + k))) ∧ eqT T f f') ?_ ?_ (ur_u f (b + 29) j (f (b + 29) i)) ⟨ur_us, fun a k _ _ hk => absurd hk (by omega), fun k hk => absurd hk (by omega), eqT_u (by rw [hT]; omega)⟩
  · obtain ⟨⟨v', m⟩, e1, e2, f', e3, e4, e5, e6, e7⟩ := main
    dsimp only at e2 e3
    subst e2 e3
    refine ⟨f', ur_cl hM.rcv rfl (e_X10_laysSeen_0 _ _ _ _ ?_), e4, e5, e6, e7⟩
    simp only [hM.r40, Option.bind_some, hM.a29 hi, hM.w29 hj]
    exact e1
  · intro q f1 hq ⟨i1, i2, i4, i3⟩
    have hle := hM.le
    have src : ∀ a, 30 ≤ a → a ≤ 32 → f1 (b + a) (8 * i + q) = f (b + a) (8 * i + q) := fun a h1 h2 => i3 _ _ (by rw [hT]; omega)
    have aB : ∀ f', ur_aB (s, f', g, R) (b + 32) (nI (8 * i + q)) = some (f' (b + 32) (8 * i + q)) := fun f' => by
      unfold ur_aB
      rw [decide_eq_true (show b + 32 < ur_base by unfold ur_base; omega), cond_true, hM.a32 (show 8 * i + q < 40 by omega)]
    refine ⟨ur_u (ur_u (ur_u f1 (b + 30) (8 * j + q) (f (b + 30) (8 * i + q))) (b + 31) (8 * j + q) (f (b + 31) (8 * i + q))) (b + 32) (8 * j + q) (vp_nar .boolean (f (b + 32) (8 * i + q))), ⟨?_, fun a k h1 h2 h3 => ?_, fun k h3 => ?_, ((i3.u (by rw [hT]; omega)).u (by rw [hT]; omega)).u (by rw [hT]; omega)⟩, fun r hr => e_X10_laysSeen_14 _ _ _ _ _ ?_⟩
    · rw [ur_ua (by omega), ur_ua (by omega), ur_ua (by omega)]; exact i1
    · have : a = 30 ∨ a = 31 := by omega
      by_cases hkq : k = q
      · subst hkq
        rcases this with rfl | rfl
        · rw [ur_ua (by omega), ur_ua (by omega), ur_us]
        · rw [ur_ua (by omega), ur_us]
      · have old := i2 a k h1 h2 (by omega)
        rcases this with rfl | rfl
        · rw [ur_ua (by omega), ur_ua (by omega), ur_un (by omega)]; exact old
        · rw [ur_ua (by omega), ur_un (by omega), ur_ua (by omega)]; exact old
    · by_cases hkq : k = q
      · subst hkq
        rw [ur_us]
      · rw [ur_un (by omega), ur_ua (by omega), ur_ua (by omega)]
        exact i4 k (by omega)
    · rw [show decide ((8 : Int32) ≤ nI q) = false from decide_eq_false (nI_ge (b := 8) hq (by decide)), cond_false]
      simp only [nI_8 i (by omega), nI_8 j (by omega), nI_add, hM.r41, hM.r42, hM.r43, Option.bind_some, hM.a30 (show 8 * i + q < 40 by omega), hM.w30 (show 8 * j + q < 40 by omega), hM.a31 (show 8 * i + q < 40 by omega), hM.w31 (show 8 * j + q < 40 by omega), aB, hM.w32 (show 8 * j + q < 40 by omega), ur_ua (show b + 31 ≠ b + 30 by omega), ur_ua (show b + 32 ≠ b + 30 by omega), ur_ua (show b + 32 ≠ b + 31 by omega), src 30 (by decide) (by decide), src 31 (by decide) (by decide), src 32 (by decide) (by decide), nI_1]
      exact hr
  · intro f1 ⟨i1, i2, i4, i3⟩
    exact ⟨(0, (s, f1, g, R)), e_X10_laysSeen_14 _ _ _ _ _ rfl, rfl, f1, rfl, i1, i2, i4, i3⟩
end URC0

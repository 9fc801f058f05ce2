/-! A night begun; judged -/
/-- a night that begins -/
def bgN (V l : Nat → Nat → Int32) : Prop := (∀ p, p < 5 → V 1 p = l 7 p ∧ V 3 p = l 7 p ∧ V 2 p = -1 ∧ V 4 p = 0 ∧ V 5 p = 0) ∧ (V 0 5 = 0 ∧ V 0 6 = 0 ∧ V 0 7 = 0 ∧ V 0 8 = 0)
def frS (H : Nat → Int32) (P k : Nat) : Int32 := if 4 ≤ k ∧ k < 4 + P then H (k - 4) else if 14 ≤ k ∧ k < 19 then -1 else 0
section URJ7
variable {s : List (Nat ⊕ (Nat × Nat))} {f f' f1 f2 l V V' : Nat → Nat → Int32} {g : Nat → Nat → Int64} {R : Nat → Nat → Option Nat} {L L' K K' D d b j p P N w n k k' a i z : Nat} {U r x y v : Int32} {E : Int32 → Int32 → Int32 → Int32 → Int32} {S : Nat → Int32}
theorem t_fill (h : s[a]? = some (.inr (0, n))) (hn : n < 2 ^ 31) : ∃ f', ur_call ur_G (d + 1) 265 [.ref a, .int v] (s, f, g, R) = some (0, (s, f', g, R)) ∧ (∀ k, k < n → f' a k = v) ∧ eqT (fun i k => i = a ∧ k < n) f f' := by
  have main := lp (n := n) (Fn := fun j (f' : Nat → Nat → Int32) => ur_at ur_G d 265 (5, [some (.ref a), some (.int v), some (.int (nI j)), some (.int (nI n))], [], (s, f', g, R)))
    (I := fun j f' => (∀ k, k < j → f' a k = v) ∧ eqT (fun i k => i = a ∧ k < n) f f')
    (Q := fun r => r.1 = 0 ∧ ∃ f', r.2 = (s, f', g, R) ∧ (∀ k, k < n → f' a k = v) ∧ eqT (fun i k => i = a ∧ k < n) f f') ?_ ?_ f ⟨fun k hk => absurd hk (by omega), eqT.refl⟩
  · obtain ⟨⟨v', m⟩, e1, e2, f', e3, e4, e5⟩ := main
    dsimp only at e2 e3
    subst e2 e3
    refine ⟨f', ur_cl rfl rfl (e_J7_fill_53178_0 _ _ _ ?_), e4, e5⟩
    rw [vlen h (by decide), Option.bind_some]
    exact e1
  · intro j f1 hj ⟨i1, i2⟩
    refine ⟨ur_u f1 a j v, ⟨fun k hk => ?_, i2.u ⟨rfl, hj⟩⟩, fun r hr => e_J7_fill_53178_5 _ _ _ _ _ ?_⟩
    · by_cases e : k = j
      · rw [e, ur_us]
      · rw [ur_un e]; exact i1 k (by omega)
    · rw [d_le hn (by omega), decide_eq_false (show ¬ n ≤ j by omega), cond_false, vwI h hj hn, Option.bind_some, nI_1]
      exact hr
  · intro f1 ⟨i1, i2⟩
    refine ⟨(0, (s, f1, g, R)), e_J7_fill_53178_5 _ _ _ _ _ ?_, rfl, f1, rfl, i1, i2⟩
    rw [d_le hn hn, decide_eq_true (Nat.le_refl n), cond_true]
theorem c_begin (hN : oNight s R n) (hL : oLand s R L) (hl : bL f L l) (hd : L + 11 ≤ n) : ∃ f', ur_call ur_G (d + 2) 40 [.ref n, .ref L] (s, f, g, R) = some (0, (s, f', g, R)) ∧ bgN (blk f' n) l ∧ eqT (TN n) f f' := by
  have cp : ∀ (i : Nat) (f : Nat → Nat → Int32), s[n + i]? = some (.inr (0, 5)) → ur_cpy (s, f, g, R) (L + 7) 0 (n + i) 0 5 = some (s, ur_row f (n + i) (va_cpy (f (L + 7)) (f (n + i)) 0 0 5), g, R) := fun i f h2 => vcpy (n := 5) hL.s7 h2 (by decide) (by decide) (by decide)
  have hv : ∀ (A B : Nat → Int32) k, k < 5 → va_cpy A B 0 0 5 k = A k := fun A B k hk => by
    unfold va_cpy
    rw [if_pos (by omega), Nat.zero_add, Nat.sub_zero]
  have c1 := fun f => cp 1 f hN.s1
  have c3 := fun f => cp 3 f hN.s3
  obtain ⟨f1, hf1⟩ : ∃ f1, f1 = ur_row f (n + 1) (va_cpy (f (L + 7)) (f (n + 1)) 0 0 5) := ⟨_, rfl⟩
  obtain ⟨f2, hf2⟩ : ∃ f2, f2 = ur_row f1 (n + 3) (va_cpy (f1 (L + 7)) (f1 (n + 3)) 0 0 5) := ⟨_, rfl⟩
  have t1 : eqT (TN n) f f1 := by rw [hf1]; exact eqT_row (fun k => by unfold TN; omega)
  have t2 : eqT (TN n) f f2 := t1.trans (by rw [hf2]; exact eqT_row (fun k => by unfold TN; omega))
  obtain ⟨f3, a1, a2, a3⟩ := t_fill (d := d) (f := f2) (g := g) (R := R) (v := -1) hN.s2 (by decide)
  obtain ⟨f4, b1, b2, b3⟩ := t_fill (d := d) (f := f3) (g := g) (R := R) (v := 0) hN.s4 (by decide)
  obtain ⟨f5, d1, d2, d3⟩ := t_fill (d := d) (f := f4) (g := g) (R := R) (v := 0) hN.s5 (by decide)
  have t5 : eqT (TN n) f f5 := ((t2.trans (a3.mono (fun a k z => by unfold TN; omega))).trans (b3.mono (fun a k z => by unfold TN; omega))).trans (d3.mono (fun a k z => by unfold TN; omega))
  have e7 : f (L + 7) = l 7 := hl.1 7 (by decide)
  refine ⟨ur_u (ur_u (ur_u (ur_u f5 n 5 0) n 6 0) n 7 0) n 8 0, ur_cl hN.rcv rfl (e_X5_begin_0 _ _ _ ?_), ⟨fun p hp => ?_, ?_⟩, (((t5.u (by unfold TN; omega)).u (by unfold TN; omega)).u (by unfold TN; omega)).u (by unfold TN; omega)⟩
  · simp only [hL.r6, hN.r0, hN.r2, hN.r1, hN.r3, hN.r4, Option.bind_some, c1, c3, ← hf1, ← hf2, a1, b1, d1, hN.pI]
  · have up4 : ∀ i, 1 ≤ i → (ur_u (ur_u (ur_u (ur_u f5 n 5 0) n 6 0) n 7 0) n 8 0) (n + i) = f5 (n + i) := fun i hi => by rw [ur_ua (by omega), ur_ua (by omega), ur_ua (by omega), ur_ua (by omega)]
    have r1 : f5 (n + 1) = f1 (n + 1) := by rw [d3.row (fun k z => by omega), b3.row (fun k z => by omega), a3.row (fun k z => by omega), hf2, ur_ra (by omega)]
    have r3 : f5 (n + 3) = f2 (n + 3) := by rw [d3.row (fun k z => by omega), b3.row (fun k z => by omega), a3.row (fun k z => by omega)]
    have r2 : f5 (n + 2) = f3 (n + 2) := by rw [d3.row (fun k z => by omega), b3.row (fun k z => by omega)]
    have r4 : f5 (n + 4) = f4 (n + 4) := by rw [d3.row (fun k z => by omega)]
    refine ⟨?_, ?_, ?_, ?_, ?_⟩
    · show (ur_u (ur_u (ur_u (ur_u f5 n 5 0) n 6 0) n 7 0) n 8 0) (n + 1) p = l 7 p
      rw [up4 1 (by decide), r1, hf1, ur_rs, hv _ _ p hp, e7]
    · show (ur_u (ur_u (ur_u (ur_u f5 n 5 0) n 6 0) n 7 0) n 8 0) (n + 3) p = l 7 p
      rw [up4 3 (by decide), r3, hf2, ur_rs, hv _ _ p hp, hf1, ur_ra (by omega), e7]
    · show (ur_u (ur_u (ur_u (ur_u f5 n 5 0) n 6 0) n 7 0) n 8 0) (n + 2) p = -1
      rw [up4 2 (by decide), r2, a2 p hp]
    · show (ur_u (ur_u (ur_u (ur_u f5 n 5 0) n 6 0) n 7 0) n 8 0) (n + 4) p = 0
      rw [up4 4 (by decide), r4, b2 p hp]
    · show (ur_u (ur_u (ur_u (ur_u f5 n 5 0) n 6 0) n 7 0) n 8 0) (n + 5) p = 0
      rw [up4 5 (by decide), d2 p hp]
  · refine ⟨?_, ?_, ?_, ?_⟩
    · show (ur_u (ur_u (ur_u (ur_u f5 n 5 0) n 6 0) n 7 0) n 8 0) n 5 = 0
      rw [ur_un (by decide), ur_un (by decide), ur_un (by decide), ur_us]
    · show (ur_u (ur_u (ur_u (ur_u f5 n 5 0) n 6 0) n 7 0) n 8 0) n 6 = 0
      rw [ur_un (by decide), ur_un (by decide), ur_us]
    · show (ur_u (ur_u (ur_u (ur_u f5 n 5 0) n 6 0) n 7 0) n 8 0) n 7 = 0
      rw [ur_un (by decide), ur_us]
    · show (ur_u (ur_u (ur_u (ur_u f5 n 5 0) n 6 0) n 7 0) n 8 0) n 8 = 0
      rw [ur_us]
theorem m_fresh0 (hM : oModel s R b) (hP : f (b + 2) 2 = nI P) (hP5 : P ≤ 5) : ∃ f', ur_call ur_G (d + 1) 176 [.ref b] (s, f, g, R) = some (0, (s, f', g, R)) ∧ (∀ k, k < 29 → f' (b + 33) k = frS (f (b + 9)) P k) ∧ eqT (TS b) f f' := by
  have two := lp (n := P) (Fn := fun j (f' : Nat → Nat → Int32) => ur_at ur_G d 176 (39, [some (.ref b), some (.int (nI j))], [], (s, f', g, R)))
    (I := fun j f' => (∀ k, k < 29 → f' (b + 33) k = frS (f (b + 9)) j k) ∧ eqT (TS b) f f')
    (Q := fun r => r.1 = 0 ∧ ∃ f', r.2 = (s, f', g, R) ∧ (∀ k, k < 29 → f' (b + 33) k = frS (f (b + 9)) P k) ∧ eqT (TS b) f f') ?_ ?_
  · have one := lp (n := 29) (Fn := fun j (f' : Nat → Nat → Int32) => ur_at ur_G d 176 (2, [some (.ref b), some (.int (nI j))], [], (s, f', g, R)))
      (I := fun j f' => (∀ k, k < j → f' (b + 33) k = frS (f (b + 9)) 0 k) ∧ eqT (TS b) f f')
      (Q := fun r => r.1 = 0 ∧ ∃ f', r.2 = (s, f', g, R) ∧ (∀ k, k < 29 → f' (b + 33) k = frS (f (b + 9)) P k) ∧ eqT (TS b) f f') ?_ ?_ f ⟨fun k hk => absurd hk (by omega), eqT.refl⟩
    · obtain ⟨⟨v', m⟩, e1, e2, f', e3, e4, e5⟩ := one
      dsimp only at e2 e3
      subst e2 e3
      exact ⟨f', ur_cl hM.rcv rfl (e_X10_fresh0_0 _ _ e1), e4, e5⟩
    · intro j f1 hj ⟨i1, i2⟩
      refine ⟨ur_u f1 (b + 33) j (frS (f (b + 9)) 0 j), ⟨fun k hk => ?_, i2.u rfl⟩, fun r hr => e_X10_fresh0_2 _ _ _ ?_⟩
      · by_cases e : k = j
        · rw [e, ur_us]
        · rw [ur_un e]; exact i1 k (by omega)
      · rw [show (29 : Int32) = nI 29 from rfl, d_le (by decide) (by omega), decide_eq_false (show ¬ 29 ≤ j by omega), cond_false, show (14 : Int32) = nI 14 from rfl, d_lt (by omega) (by decide), show (19 : Int32) = nI 19 from rfl, d_le (by decide) (by omega)]
        simp only [hM.r44, Option.bind_some, hM.w33 (show j < 29 by omega), nI_1]
        unfold frS at hr
        rw [if_neg (by omega)] at hr
        by_cases h1 : j < 14
        · rw [if_neg (by omega)] at hr
          rw [decide_eq_true h1]
          exact hr
        · rw [decide_eq_false h1]
          by_cases h2 : 19 ≤ j
          · rw [if_neg (by omega)] at hr
            rw [decide_eq_true h2]
            exact hr
          · rw [if_pos (by omega)] at hr
            rw [decide_eq_false h2]
            exact hr
    · intro f1 ⟨i1, i2⟩
      obtain ⟨r, e1, e2⟩ := two f1 ⟨i1, i2⟩
      exact ⟨r, e_X10_fresh0_2 _ _ _ e1, e2⟩
  · intro j f1 hj ⟨i1, i2⟩
    have a2 : ur_aI (s, f1, g, R) (b + 2) 0 2 = some (f1 (b + 2) 2) := hM.a2 (show 2 < 6 by decide)
    have e2 : f1 (b + 2) 2 = nI P := by rw [i2.row (fun k z => by unfold TS at z; omega), hP]
    have e9 : f1 (b + 9) = f (b + 9) := i2.row (fun k z => by unfold TS at z; omega)
    refine ⟨ur_u f1 (b + 33) (4 + j) (f (b + 9) j), ⟨fun k hk => ?_, i2.u rfl⟩, fun r hr => e_X10_fresh0_39 _ _ _ ?_⟩
    · by_cases e : k = 4 + j
      · rw [e, ur_us]
        unfold frS
        rw [if_pos (by omega)]
        congr 1
        omega
      · rw [ur_un e, i1 k hk]
        unfold frS
        by_cases q : 4 ≤ k ∧ k < 4 + j
        · rw [if_pos q, if_pos (by omega)]
        · rw [if_neg q, if_neg (show ¬ (4 ≤ k ∧ k < 4 + (j + 1)) by omega)]
    · simp only [hM.r10, a2, e2, Option.bind_some, d_le (show P < 2 ^ 31 by omega) (show j < 2 ^ 31 by omega), decide_eq_false (show ¬ P ≤ j by omega), cond_false, hM.r44, hM.r17, hM.a9 (show j < 10 by omega), e9, show (4 : Int32) + nI j = nI (4 + j) from nI_add 4 j, hM.w33 (show 4 + j < 29 by omega), nI_1]
      exact hr
  · intro f1 ⟨i1, i2⟩
    have a2 : ur_aI (s, f1, g, R) (b + 2) 0 2 = some (f1 (b + 2) 2) := hM.a2 (show 2 < 6 by decide)
    have e2 : f1 (b + 2) 2 = nI P := by rw [i2.row (fun k z => by unfold TS at z; omega), hP]
    refine ⟨(0, (s, f1, g, R)), e_X10_fresh0_39 _ _ _ ?_, rfl, f1, rfl, i1, i2⟩
    simp only [hM.r10, a2, e2, Option.bind_some, d_le (show P < 2 ^ 31 by omega) (show P < 2 ^ 31 by omega), Nat.le_refl, decide_true, cond_true]
theorem r_fresh (hl : rL f b l N P) (hv : bgN V l) (hs : ∀ k, k < 29 → S k = frS (f (b + 9)) P k) : rN V (l 0 9) N P S := by
  have h5 := hl.1.2
  have z0 : ∀ k, k < 29 → ¬ (4 ≤ k ∧ k < 4 + P) → ¬ (14 ≤ k ∧ k < 19) → S k = 0 := fun k h1 h2 h3 => by
    rw [hs k h1]
    unfold frS
    rw [if_neg h2, if_neg h3]
  obtain ⟨v1, v5, v6, v7, v8⟩ := hv
  refine rN_iff.mpr ⟨⟨?_, ?_, ?_, ?_⟩, fun p hp => ?_, fun p h1 h2 => ?_, fun i hi h => ?_⟩
  · rw [z0 0 (by decide) (by omega) (by omega), v8]
  · rw [z0 1 (by decide) (by omega) (by omega), v7]
  · rw [z0 2 (by decide) (by omega) (by omega), v6]
  · rw [z0 3 (by decide) (by omega) (by omega), v5]
  · obtain ⟨a1, a3, a2, a4, a5⟩ := v1 p (by omega)
    obtain ⟨b1, b2, b3, h, b4, b5, b6⟩ := hl.2.2.2.2.2.2.2 p hp
    refine ⟨⟨?_, ?_, ?_, ?_⟩, h, b4, by rw [a1, b5], Or.inl ⟨a2, b6⟩⟩
    · rw [hs _ (by omega), a1]
      unfold frS
      rw [if_pos (by omega), show 4 + p - 4 = p by omega, b3]
    · rw [hs _ (by omega), a2]
      unfold frS
      rw [if_neg (by omega), if_pos (by omega)]
    · rw [z0 _ (by omega) (by omega) (by omega), a4]
    · rw [z0 _ (by omega) (by omega) (by omega), a5]
  · exact z0 _ (by omega) (by omega) (by omega)
  · rw [v6, b_0] at h
    cases h
end URJ7

/-! CALLS THAT DO: walk, show, speak, burn, minute, undo -/
def INV (s : List (Nat ⊕ (Nat × Nat))) (R : Nat → Nat → Option Nat) (f : Nat → Nat → Int32) (g : Nat → Nat → Int64) : Prop := ∃ L L' K K' l V N P E, JV s R f g L L' K K' l V N P E
def JC (s : List (Nat ⊕ (Nat × Nat))) (R : Nat → Nat → Option Nat) (f : Nat → Nat → Int32) (g : Nat → Nat → Int64) (D k k' : Nat) (as : List Value) : Prop := ∃ v f1 g1 R1 f2 g2 R2, ur_call ur_G D k (.ref 0 :: as) (s, f, g, R) = some (v, (s, f1, g1, R1)) ∧ ur_call ur_G D k' (.ref 208 :: as) (s, f1, g1, R1) = some (v, (s, f2, g2, R2)) ∧ INV s R2 f2 g2
theorem md1 : ∀ e, e < 16 → (nI e + 1) - (nI e + 1) / 16 * 16 = nI ((e + 1) % 16) := by decide +kernel
theorem md2 : ∀ z, z ≤ 16 → ur_mn (nI z + 1) 16 = nI (min (z + 1) 16) := by decide +kernel
theorem md3 : ∀ e, e < 16 → (nI e + 16 - 1) - (nI e + 16 - 1) / 16 * 16 = nI ((e + 15) % 16) := by decide +kernel
theorem nI_mul29 : ∀ z, z ≤ 16 → (29 : Int32) * nI z = nI (29 * z) := by decide +kernel
def TR (e : Nat) : Nat → Nat → Prop := fun a k => TN (56 + 6 * e) a k ∨ (a = 0 ∧ (k = 9 ∨ k = 10))
def TKe (b : Nat) : Nat → Nat → Prop := fun a k => a = b + 37 ∨ (a = b ∧ k = 50)
section URM5
variable {s : List (Nat ⊕ (Nat × Nat))} {f f' f1 f2 f3 f4 l V V' V2 : Nat → Nat → Int32} {g : Nat → Nat → Int64} {R : Nat → Nat → Option Nat} {L L' K K' D d b j p P N w n k k' e z : Nat} {U r x y v v' : Int32} {E : Int32 → Int32 → Int32 → Int32 → Int32} {as : List Value}
theorem JV.inv (h : JV s R f g L L' K K' l V N P E) : INV s R f g := ⟨L, L', K, K', l, V, N, P, E, h⟩
theorem JV.jc (h : JV s R f g L L' K K' l V N P E) (hq : JQ s R f g D k k' as) : JC s R f g D k k' as := by
  obtain ⟨v, f1, f2, h1, h2, h3⟩ := hq
  exact ⟨v, f1, g, R, f2, g, R, h1, h2, (h.q h3).inv⟩
theorem x_remember (hX : oX s R L L' K K') (he : e < 16) (hz : z ≤ 16) (e9 : f 0 9 = nI e) (e10 : f 0 10 = nI z) : ∃ f', ur_call ur_G (d + 2) 93 [.ref 0] (s, f, g, R) = some (0, (s, f', g, R)) ∧ reqv (blk f 33) (blk f' (56 + 6 * e)) ∧ f' 0 9 = nI ((e + 1) % 16) ∧ f' 0 10 = nI (min (z + 1) 16) ∧ eqT (TR e) f f' := by
  obtain ⟨f1, c1, c2, c3⟩ := c_copy (d := d) (f := f) (g := g) (hX.pastN he) hX.now (Or.inr (by omega))
  have n0 : ∀ k, ¬ TN (56 + 6 * e) 0 k := fun k z => by unfold TN at z; omega
  have t0 : f1 0 = f 0 := c3.row n0
  refine ⟨ur_u (ur_u f1 0 9 (nI ((e + 1) % 16))) 0 10 (nI (min (z + 1) 16)), ur_cl hX.rcv rfl (e_X9_remember_0 _ _ ?_), ?_, ?_, ur_us, ?_⟩
  · simp only [hX.r8, hX.I, hX.r5, Option.bind_some, e9, hX.past he, c1, t0, hX.pI, md1 e he, ur_un (show (10 : Nat) ≠ 9 by decide), e10, md2 z hz]
  · refine c2.trans ⟨fun i k h1 h2 h3 => ?_, fun k h1 h2 => ?_⟩
    · show (ur_u (ur_u f1 0 9 _) 0 10 _) (56 + 6 * e + i) k = f1 (56 + 6 * e + i) k
      rw [ur_ua (by omega), ur_ua (by omega)]
    · show (ur_u (ur_u f1 0 9 _) 0 10 _) (56 + 6 * e + 0) k = f1 (56 + 6 * e + 0) k
      rw [ur_ua (by omega), ur_ua (by omega)]
  · rw [ur_un (by decide), ur_us]
  · exact ((c3.mono (fun a k z => Or.inl z)).u (Or.inr ⟨rfl, Or.inl rfl⟩)).u (Or.inr ⟨rfl, Or.inr rfl⟩)
theorem m_keeps (hM : oModel s R b) (hz : z ≤ 16) (e50 : f b 50 = nI z) : ∃ f', ur_call ur_G (d + 2) 203 [.ref b] (s, f, g, R) = some (0, (s, f', g, R)) ∧ f' b 50 = nI (min (z + 1) 16) ∧ (∀ k, k < 29 → f' (b + 37) (29 * (min (z + 1) 16 - 1) + k) = f (b + 33) k) ∧ (∀ i, i + 1 < min (z + 1) 16 → ∀ k, k < 29 → f' (b + 37) (29 * i + k) = f (b + 37) (29 * (if z = 16 then i + 1 else i) + k)) ∧ eqT (TKe b) f f' := by
  have last : ∀ (z : Nat) (f : Nat → Nat → Int32), z < 16 → f b 50 = nI z → ∃ f', ur_at ur_G (d + 1) 203 (49, [some (.ref b), none], [], (s, f, g, R)) = some (0, (s, f', g, R)) ∧ f' b 50 = nI (z + 1) ∧ (∀ k, k < 29 → f' (b + 37) (29 * z + k) = f (b + 33) k) ∧ eqT (fun a k => (a = b + 37 ∧ 29 * z ≤ k ∧ k < 29 * z + 29) ∨ (a = b ∧ k = 50)) f f' := by
    intro z f hz e50
    obtain ⟨f1, c1, c2, c3⟩ := t_copies (d := d) (f := f) (g := g) (R := R) (i0 := 0) (j0 := 29 * z) hM.s33 hM.s37 (by decide) (by omega) (by decide) (by decide) (show b + 33 ≠ b + 37 by omega)
    have eb : f1 b = f b := c3.row (fun k z => by omega)
    refine ⟨ur_u f1 b 50 (nI (z + 1)), e_X10_keeps_49 _ _ ?_, ur_us, fun k hk => ?_, (c3.mono (fun a k z => Or.inl z)).u (Or.inr ⟨rfl, rfl⟩)⟩
    · have c1' : ur_call ur_G (d + 1) 172 [.ref (b + 33), .int 0, .ref (b + 37), .int (nI (29 * z))] (s, f, g, R) = some (0, (s, f1, g, R)) := c1
      simp only [hM.r44, hM.r48, hM.I, Option.bind_some, e50, nI_mul29 z (by omega), c1', eb, hM.pI, nI_1]
    · rw [ur_ua (by omega), c2 k hk, Nat.zero_add]
  by_cases h16 : z = 16
  · subst h16
    have main := lp (n := 435) (Fn := fun j (f' : Nat → Nat → Int32) => ur_at ur_G (d + 1) 203 (11, [some (.ref b), some (.int (nI j))], [], (s, f', g, R)))
      (I := fun j f' => (∀ k, k < j → f' (b + 37) k = f (b + 37) (k + 29)) ∧ (∀ k, j ≤ k → f' (b + 37) k = f (b + 37) k) ∧ eqT (fun a k => a = b + 37) f f')
      (Q := fun r => r.1 = 0 ∧ ∃ f', r.2 = (s, f', g, R) ∧ f' b 50 = nI 16 ∧ (∀ k, k < 29 → f' (b + 37) (29 * 15 + k) = f (b + 33) k) ∧ (∀ i, i < 15 → ∀ k, k < 29 → f' (b + 37) (29 * i + k) = f (b + 37) (29 * (i + 1) + k)) ∧ eqT (TKe b) f f') ?_ ?_ f ⟨fun k hk => absurd hk (by omega), fun k _ => rfl, eqT.refl⟩
    · obtain ⟨⟨v, m⟩, e1, e2, f', e3, e4, e5, e6, e7⟩ := main
      dsimp only at e2 e3
      subst e2 e3
      refine ⟨f', ur_cl hM.rcv rfl (e_X10_keeps_0 _ _ ?_), e4, e5, fun i hi k hk => ?_, e7⟩
      · rw [hM.I, Option.bind_some, e50]
        exact e1
      · rw [if_pos rfl]
        exact e6 i (by omega) k hk
    · intro j f1 hj ⟨i1, i2, i3⟩
      refine ⟨ur_u f1 (b + 37) j (f1 (b + 37) (j + 29)), ⟨fun k hk => ?_, fun k hk => ?_, i3.u rfl⟩, fun r hr => e_X10_keeps_11 _ _ _ ?_⟩
      · by_cases hkj : k = j
        · subst hkj
          rw [ur_us, i2 _ (by omega)]
        · rw [ur_un hkj]
          exact i1 k (by omega)
      · rw [ur_un (by omega)]
        exact i2 k (by omega)
      · rw [show (435 : Int32) = nI 435 from rfl, d_le (by decide) (by omega), decide_eq_false (show ¬ 435 ≤ j by omega), cond_false, show nI j + (29 : Int32) = nI (j + 29) from nI_add j 29]
        simp only [hM.r48, Option.bind_some, hM.a37 (show j + 29 < 464 by omega), hM.w37 (show j < 464 by omega), nI_1]
        exact hr
    · intro f1 ⟨i1, i2, i3⟩
      have eb : f1 b 50 = nI 16 := by rw [i3 b 50 (by omega), e50]
      obtain ⟨f2, d1, d2, d3, d4⟩ := last 15 (ur_u f1 b 50 (nI 15)) (by decide) ur_us
      refine ⟨(0, (s, f2, g, R)), e_X10_keeps_11 _ _ _ ?_, rfl, f2, rfl, d2, fun k hk => ?_, fun i hi k hk => ?_, ?_⟩
      · rw [show decide ((435 : Int32) ≤ nI 435) = true from by decide, cond_true]
        simp only [hM.I, hM.pI, Option.bind_some, eb, show nI 16 - (1 : Int32) = nI 15 from rfl]
        exact d1
      · rw [d3 k hk, ur_ua (by omega), i3 (b + 33) k (by omega)]
      · rw [d4 _ _ (by omega), ur_ua (by omega), i1 _ (by omega)]
        congr 1
        omega
      · exact ((i3.mono (fun a k z => Or.inl z)).u (Or.inr ⟨rfl, rfl⟩)).trans (d4.mono (fun a k z => by omega))
  · have hm : min (z + 1) 16 = z + 1 := by omega
    obtain ⟨f1, c1, c2, c3, c4⟩ := last z f (by omega) e50
    rw [hm]
    refine ⟨f1, ur_cl hM.rcv rfl (e_X10_keeps_0 _ _ ?_), c2, c3, fun i hi k hk => ?_, c4.mono (fun a k z => by unfold TKe; omega)⟩
    · rw [hM.I, Option.bind_some, e50, show decide (nI z ≠ (16 : Int32)) = true from decide_eq_true (fun q => h16 ((nI_eq (a := z) (b := 16) (by omega) (by decide)).mp q)), cond_true]
      exact c1
    · rw [if_neg h16, c4 _ _ (by omega)]
theorem paR_push (hP : P ≤ 5) (he : e < 16) (hz : z ≤ 16) (h6 : ∀ i, i < z → rN (blk f (56 + 6 * ((e + 16 - z + i) % 16))) U N P (fun k => f 245 (29 * i + k))) (g9 : f' 0 9 = nI ((e + 1) % 16)) (g10 : f' 0 10 = nI (min (z + 1) 16)) (g50 : f' 208 50 = nI (min (z + 1) 16)) (top : rN (blk f' (56 + 6 * e)) U N P (fun k => f' 245 (29 * (min (z + 1) 16 - 1) + k))) (hc : ∀ a k, 56 ≤ a → a < 152 → ¬ TN (56 + 6 * e) a k → f' a k = f a k) (hm : ∀ i, i + 1 < min (z + 1) 16 → ∀ k, k < 29 → f' 245 (29 * i + k) = f 245 (29 * (if z = 16 then i + 1 else i) + k)) : paR f' U N P := by
  refine ⟨(e + 1) % 16, min (z + 1) 16, by omega, by omega, g9, g10, g50, fun i hi => ?_⟩
  by_cases ht : i + 1 = min (z + 1) 16
  · have e1 : ((e + 1) % 16 + 16 - min (z + 1) 16 + i) % 16 = e := by omega
    have e2 : i = min (z + 1) 16 - 1 := by omega
    rw [e1, e2]
    exact top
  · have hi2 : i + 1 < min (z + 1) 16 := by omega
    have q1 : ∃ q, q < z ∧ (if z = 16 then i + 1 else i) = q ∧ (e + 16 - z + q) % 16 = ((e + 1) % 16 + 16 - min (z + 1) 16 + i) % 16 ∧ ((e + 1) % 16 + 16 - min (z + 1) 16 + i) % 16 ≠ e := by
      by_cases h16 : z = 16
      · exact ⟨i + 1, by omega, if_pos h16, by omega, by omega⟩
      · exact ⟨i, by omega, if_neg h16, by omega, by omega⟩
    obtain ⟨q, hq, q2, q3, q4⟩ := q1
    have := h6 q hq
    rw [q3] at this
    have hlt : ((e + 1) % 16 + 16 - min (z + 1) 16 + i) % 16 < 16 := Nat.mod_lt _ (by decide)
    generalize ((e + 1) % 16 + 16 - min (z + 1) 16 + i) % 16 = o at *
    refine this.eqv hP ⟨fun a k h1 h2 h3 => hc _ _ (by omega) (by omega) (fun z => by unfold TN at z; omega), fun k h1 h2 => hc _ _ (by omega) (by omega) (fun z => by unfold TN at z; omega)⟩ (fun k hk => ?_)
    rw [hm i hi2 k hk, q2]
end URM5

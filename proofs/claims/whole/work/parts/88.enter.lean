/-! BOTH BEGIN TO READ A TEXT OF ROOMS -/
def TMr : Nat → Nat → Prop := fun a k => TMz a k ∨ (a = 208 ∧ (k = 1 ∨ k = 3))
section UREN
variable {s : List (Nat ⊕ (Nat × Nat))} {f f' f1 f2 : Nat → Nat → Int32} {g g' : Nat → Nat → Int64} {R : Nat → Nat → Option Nat} {d i k L : Nat} {q : Nat × (Nat → Nat)}
theorem x_clear (hL : oLand s R L) (hA : oLaw s R (L + 8)) : ∃ f', ur_call ur_G (d + 3) 11 [.ref L] (s, f, g, R) = some (0, (s, f', g, R)) ∧ xZ f' g L z0 none ∧ eqT (fun a k => (a = L ∧ 8 ≤ k ∧ k ≤ 12) ∨ a = L + 3 ∨ (a = L + 8 ∧ k = 2)) f f' := by
  obtain ⟨f1, a1, a2, a3⟩ := t_fill (d := d + 1) (f := f) (g := g) (R := R) (v := 0) hL.s3 (by decide)
  obtain ⟨f2, hf2⟩ : ∃ f2, f2 = ur_u (ur_u (ur_u (ur_u (ur_u (ur_u f1 (L + 8) 2 0) L 8 0) L 9 0) L 10 0) L 11 0) L 12 0 := ⟨_, rfl⟩
  have t2 : eqT (fun a k => (a = L ∧ 8 ≤ k ∧ k ≤ 12) ∨ (a = L + 8 ∧ k = 2)) f1 f2 := by
    rw [hf2]
    exact (((((eqT_u (by omega)).u (by omega)).u (by omega)).u (by omega)).u (by omega)).u (by omega)
  refine ⟨f2, ur_cl hL.rcv rfl (e_X1_clear_0 _ _ ?_), ⟨⟨⟨?_, ?_, ?_, ?_, ?_⟩, fun r hr => absurd hr (Nat.not_lt_zero r), fun r hr => ?_, fun p hp => absurd hp (Nat.not_lt_zero p)⟩, ?_, fun k hk => absurd hk (Nat.not_lt_zero k)⟩, (a3.mono (fun a k y => by omega)).trans (t2.mono (fun a k y => by omega))⟩
  · have pz : ∀ f : Nat → Nat → Int32, ur_pZ (s, f, g, R) L 1 8 (0 : Int32) = some (s, ur_u f L 8 0, g, R) := fun f => vpZ hL.o (Or.inl rfl)
    simp only [hL.r2, Option.bind_some, a1, hL.r7, hA.pI, pz, hL.pI, ← hf2]
  · rw [hf2, ur_un (by decide), ur_un (by decide), ur_un (by decide), ur_un (by decide)]; exact ur_us
  · rw [hf2, ur_un (by decide), ur_un (by decide), ur_un (by decide)]; exact ur_us
  · rw [hf2, ur_un (by decide), ur_un (by decide)]; exact ur_us
  · rw [hf2, ur_un (by decide)]; exact ur_us
  · rw [hf2]; exact ur_us
  · rw [t2 _ _ (by omega)]; exact a2 r hr
  · rw [hf2, ur_ua (by omega), ur_ua (by omega), ur_ua (by omega), ur_ua (by omega), ur_ua (by omega)]; exact ur_us
theorem x_read (hO : oTape s R 1) (hS : s.length ≤ 1000) (hL : oLand s R L) (hA : oLaw s R (L + 8)) (hL3 : 3 ≤ L) (ht : tpX f q) : ∃ v f' g', ur_call ur_G (d + 51) 12 [.ref L, .ref 1] (s, f, g, R) = some (v, (s, f', g', R)) ∧ cAZ f' g' L (pAll q (q.1 + 1) 0 z0 none) v ∧ eqT (TZa L) f f' ∧ eqL (GLa L) g g' := by
  obtain ⟨f1, a1, a2, a3⟩ := x_clear (d := d + 47) (f := f) (g := g) hL hA
  have ht1 : tpX f1 q := ht.fr a3 ⟨by omega, fun k y => by omega⟩
  obtain ⟨f2, hf2⟩ : ∃ f2, f2 = ur_u (ur_u f1 1 2 0) 1 7 0 := ⟨_, rfl⟩
  have t2 : eqT (fun a k => a = 1 ∧ (k = 2 ∨ k = 7)) f1 f2 := by
    rw [hf2]
    exact (eqT_u (by omega)).u (by omega)
  have ht2 : tpX f2 q := ht1.fr t2 ⟨by omega, fun k y => by omega⟩
  have e2 : f2 1 2 = nI 0 := by rw [hf2, ur_un (by decide)]; exact ur_us
  obtain ⟨f3, w, c1, c2, c3⟩ := x_advance (d := d + 41) (g := g) hO hS ht2 (Nat.zero_le q.1) e2
  have hc : cS f3 (ur_u g 1 5 w) q 0 := ⟨ht2.fr c3 TAx_d, ⟨Nat.zero_le _, by rw [c3 _ _ (by unfold TAx; omega), hf2]; exact ur_us⟩, c2⟩
  have t3 : eqT TF1 f1 f3 := (t2.mono (fun a k y => by unfold TF1; omega)).trans (c3.mono (fun a k y => by unfold TAx at y; unfold TF1; omega))
  have tg : eqL GF1 g (ur_u g 1 5 w) := eqL_u ⟨rfl, rfl⟩
  have x3 : xZ f3 (ur_u g 1 5 w) L z0 none := ⟨a2.1.tp hL3 t3 tg, a2.2.fr t3 (by unfold TF1; omega) (fun k y => by unfold TF1 at y; omega)⟩
  obtain ⟨v, f4, g4, b1, b2, b3, b4⟩ := x_all (d := d) (q := q) hO hS hL hA hL3 (q.1 + 1) 0 0 z0 none f3 (ur_u g 1 5 w) (by omega) (Nat.le_refl 0) hc x3 zW_0 trivial
  refine ⟨v, f4, g4, ur_cl hL.rcv rfl (e_X1_readFrom_0 _ _ _ ?_), b2, ((a3.mono (fun a k y => by unfold TZa; omega)).trans (t3.mono TF1_Za)).trans b3, (tg.mono GF1_La).trans b4⟩
  have cb : ur_call ur_G (d + 50) 73 [.ref 1] (s, f1, g, R) = some (0, (s, f3, ur_u g 1 5 w, R)) := by
    refine ur_cl hO.rcv rfl (e_X8_begin_0 _ _ ?_)
    simp only [hO.pI, Option.bind_some, ← hf2, c1]
  simp only [a1, Option.bind_some, cb]
  exact b1
theorem m_read (hM : oModel s R 208) (h1 : tpC f 208 209 1 q) (hch : ∀ k, k < q.1 → q.2 k < 128) : ∃ v f' g', ur_call ur_G (d + 5) 168 [.ref 208] (s, f, g, R) = some (v, (s, f', g', R)) ∧ mAZ f' g' (pAll q (q.1 + 1) 0 z0 none) v ∧ eqT TMr f f' ∧ eqL GMa g g' ∧ f' 208 1 = 0 := by
  have st : ∀ (k : Nat) (f : Nat → Nat → Int32) (rr : ur_V), k < 3 → ur_at ur_G (d + 4) 168 (2, [some (.ref 208), some (.int (nI (k + 1)))], [], (s, ur_u f (208 + 2) (3 + k) 0, g, R)) = some rr → ur_at ur_G (d + 4) 168 (2, [some (.ref 208), some (.int (nI k))], [], (s, f, g, R)) = some rr := fun k f rr hk hr => by
    have w2 : ur_wI (s, f, g, R) (208 + 2) 0 (nI (3 + k)) 0 = some (s, ur_u f (208 + 2) (3 + k) 0, g, R) := hM.w2 (by omega)
    refine e_X10_readsAll_2 _ _ _ ?_
    simp only [show decide ((3 : Int32) ≤ nI k) = false from (d_le (a := 3) (by decide) (by omega)).trans (decide_eq_false (by omega)), cond_false, hM.r10, Option.bind_some, show (3 : Int32) + nI k = nI (3 + k) from nI_add 3 k, w2, nI_1]
    exact hr
  obtain ⟨f1, hf1⟩ : ∃ f1, f1 = ur_u (ur_u (ur_u f (208 + 2) (3 + 0) 0) (208 + 2) (3 + 1) 0) (208 + 2) (3 + 2) 0 := ⟨_, rfl⟩
  obtain ⟨f2, hf2⟩ : ∃ f2, f2 = ur_u (ur_u (ur_u f1 (208 + 10) 1 1000) (208 + 11) 1 1000) 208 21 1000 := ⟨_, rfl⟩
  obtain ⟨f3, hf3⟩ : ∃ f3, f3 = ur_u (ur_u (ur_u f2 208 3 (f2 208 1)) 208 1 0) 208 4 0 := ⟨_, rfl⟩
  have t1 : eqT (fun a k => a = 210 ∧ 3 ≤ k) f f1 := by
    rw [hf1]
    exact ((eqT_u (by omega)).u (by omega)).u (by omega)
  have t2 : eqT (fun a k => ((a = 218 ∨ a = 219) ∧ k = 1) ∨ (a = 208 ∧ k = 21)) f1 f2 := by
    rw [hf2]
    exact ((eqT_u (by omega)).u (by omega)).u (by omega)
  have t3 : eqT (fun a k => a = 208 ∧ (k = 1 ∨ k = 3 ∨ k = 4)) f2 f3 := by
    rw [hf3]
    exact ((eqT_u (by omega)).u (by omega)).u (by omega)
  have e1 : f2 208 1 = nI q.1 := by rw [t2 _ _ (by omega), t1 _ _ (by omega)]; exact h1.1
  have ht3 : tpM f3 q := ⟨by rw [hf3, ur_un (by decide), ur_un (by decide), ur_us, e1], h1.2.1, fun k hk => by rw [t3 _ _ (by omega), t2 _ _ (by omega), t1 _ _ (by omega)]; exact h1.2.2 k hk, hch⟩
  have e4 : f3 208 4 = nI 0 := by rw [hf3]; exact ur_us
  obtain ⟨f4, w, c1, c2, c3⟩ := m_next (d := d + 1) (g := g) hM ht3 (Nat.zero_le q.1) e4
  have hs : mS f4 (ur_u g 208 7 w) q 0 := ⟨ht3.fr c3 TBx_d, Nat.zero_le _, c2⟩
  have e210 : ∀ j, j < 3 → f4 210 (3 + j) = nI 0 := fun j hj => by
    rw [c3 _ _ (by unfold TBx; omega), t3 _ _ (by omega), t2 _ _ (by omega), hf1]
    match j, hj with
    | 0, _ =>
      show ur_u (ur_u (ur_u f 210 3 0) 210 4 0) 210 5 0 210 3 = nI 0
      rw [ur_un (by decide), ur_un (by decide)]; exact ur_us
    | 1, _ =>
      show ur_u (ur_u (ur_u f 210 3 0) 210 4 0) 210 5 0 210 4 = nI 0
      rw [ur_un (by decide)]; exact ur_us
    | 2, _ => exact ur_us
  have z4 : mZ f4 (ur_u g 208 7 w) z0 none := by
    refine ⟨⟨⟨e210 0 (by decide), e210 1 (by decide), e210 2 (by decide)⟩, fun r hr => absurd hr (Nat.not_lt_zero r), fun p hp => absurd hp (Nat.not_lt_zero p)⟩, ⟨?_, fun k hk => absurd hk (Nat.not_lt_zero k)⟩, ?_, ?_⟩
    · rw [c3 _ _ (by unfold TBx; omega), t3 _ _ (by omega), hf2]; exact ur_us
    · rw [c3 _ _ (by unfold TBx; omega), t3 _ _ (by omega), hf2, ur_ua (by decide), ur_ua (by decide)]; exact ur_us
    · rw [c3 _ _ (by unfold TBx; omega), t3 _ _ (by omega), hf2, ur_ua (by decide)]; exact ur_us
  obtain ⟨v, f5, g5, b1, b2, b3, b4⟩ := m_all (d := d) (q := q) hM (q.1 + 1) 0 z0 none f4 (ur_u g 208 7 w) (by omega) hs z4 zW_0 trivial
  have cb : ur_call ur_G (d + 4) 167 [.ref 208] (s, f2, g, R) = some (0, (s, f4, ur_u g 208 7 w, R)) := by
    refine ur_cl hM.rcv rfl (e_X10_begins_0 _ _ ?_)
    simp only [hM.I, hM.pI, Option.bind_some, ← hf3, c1]
  have w10 : ∀ f : Nat → Nat → Int32, ur_wI (s, f, g, R) (208 + 10) 0 (1 : Int32) 1000 = some (s, ur_u f (208 + 10) 1 1000, g, R) := fun f => hM.w10 (j := 1) (by decide)
  have w11 : ∀ f : Nat → Nat → Int32, ur_wI (s, f, g, R) (208 + 11) 0 (1 : Int32) 1000 = some (s, ur_u f (208 + 11) 1 1000, g, R) := fun f => hM.w11 (j := 1) (by decide)
  refine ⟨v, f5, g5, ur_cl hM.rcv rfl (e_X10_readsAll_0 _ _ (st 0 _ _ (by decide) (st 1 _ _ (by decide) (st 2 _ _ (by decide) (e_X10_readsAll_2 _ _ _ ?_))))), b2, ?_, (eqL_u (Or.inl ⟨rfl, Or.inl rfl⟩)).trans b4, ?_⟩
  · rw [← hf1]
    simp only [show decide ((3 : Int32) ≤ nI (2 + 1)) = true from by decide, cond_true, hM.r18, Option.bind_some, w10, hM.r19, w11, hM.pI, ← hf2, cb]
    exact b1
  · refine ((((t1.mono (fun a k y => ?_)).trans (t2.mono (fun a k y => ?_))).trans (t3.mono (fun a k y => ?_))).trans (c3.mono (fun a k y => ?_))).trans (b3.mono (fun a k y => Or.inl y))
    · unfold TMr TMz TMa; omega
    · unfold TMr TMz TMa TG; omega
    · unfold TMr TMz TMa; omega
    · unfold TBx at y; unfold TMr TMz TMa; omega
  · rw [b3 _ _ (by unfold TMz TMa TG; omega), c3 _ _ (by unfold TBx; omega), hf3, ur_un (by decide)]; exact ur_us
end UREN

/-! THE E: its value, level by level -/
theorem kp_up {m k : Nat} (hm : m < 3) (h : kpE m k) : kpE (m + 1) k := by
  unfold kpE at *
  omega
/-- a level: its first operand, then its loop -/
theorem ML_lv {m w : Nat} {c1 c2 : List Int32} {v : uVF} {F : uVF → uVF} (hm : m < 4) (h1 : (m < 3 → MLv (m + 1) w c1 v) ∧ (m = 3 → M4v w c1 v)) (h2 : MLo m w c2 F) : MLv m w (c1 ++ c2) (F v) := by
  intro A W hb hp
  have st : ∃ W1, wkL A c1 (W, w) = some (W1, w) ∧ (∀ k e, e < w → W1 k e = W k e) ∧ (∀ k, kpE m k → W1 k w = W k w) ∧ vlE m W1 w = vAt v A ∧ (m = 1 → W1 3 w = 0) ∧ W1 8 w = W 8 w := by
    by_cases e3 : m = 3
    · subst e3
      obtain ⟨W1, a1, a2⟩ := h1.2 rfl A W
      have hb1 : bwE W1 w := by
        rcases hb with z | z
        · exact Or.inl z
        · exact Or.inr (by rw [a1 8 w (Nat.le_refl w)]; exact z)
      rw [peW_b hb1, a1 7 w (Nat.le_refl w), hp.1, show decide ((0 : Int32) ≠ 0) = false from by decide, cond_false] at a2
      refine ⟨_, a2, fun k e he => by rw [uW_d (by omega), a1 k e (by omega)], fun k hk => by rw [uW_n (hk.1 rfl).1, a1 k w (Nat.le_refl w)], uW_s, fun z => absurd z (by omega), by rw [uW_n (by decide), a1 8 w (Nat.le_refl w)]⟩
    · have hp' : prE (m + 1) W w := ⟨hp.1, fun z => hp.2.1 (by omega), fun z => hp.2.2.1 (by omega), fun z => by omega⟩
      obtain ⟨W1, a1, a2, a3, a4⟩ := h1.1 (by omega) A W hb hp'
      refine ⟨W1, a1, a2, fun k hk => a3 k (kp_up (by omega) hk), ?_, fun z => ?_, a3 8 (by unfold kpE; omega)⟩
      · have hmm : m = 0 ∨ m = 1 ∨ m = 2 := by omega
        rcases hmm with rfl | rfl | rfl
        · show fulV W1 w = vAt v A
          have e1 : W1 1 w = 0 := by rw [a3 1 (by unfold kpE; omega)]; exact hp.2.2.2 rfl
          unfold fulV
          rw [e1, show decide ((0 : Int32) ≠ 27) = true from by decide, cond_true, show decide ((0 : Int32) ≠ 26) = true from by decide, cond_true]
          exact a4
        · show tstV W1 w = vAt v A
          have e1 : W1 3 w = 0 := by rw [a3 3 (by unfold kpE; omega)]; exact hp.2.2.1 (by omega)
          unfold tstV
          rw [e1, show decide ((0 : Int32) ≠ 25) = true from by decide, cond_true, show decide ((0 : Int32) ≠ 24) = true from by decide, cond_true]
          exact a4
        · show pendV W1 w = vAt v A
          have e4 : W1 4 w = 0 := by rw [a3 4 (by unfold kpE; omega)]; exact (hp.2.1 (by omega)).1
          have e5 : W1 5 w = 20 := by rw [a3 5 (by unfold kpE; omega)]; exact (hp.2.1 (by omega)).2
          unfold pendV
          rw [e4, e5, show decide ((20 : Int32) ≠ 21) = true from by decide, cond_true, Int32.zero_add]
          exact a4
      · subst z
        rw [a3 3 (by unfold kpE; omega)]
        exact hp.2.2.1 (by omega)
  obtain ⟨W1, a1, a2, a3, a4, a5, a6⟩ := st
  have hb1 : bwE W1 w := by
    rcases hb with z | z
    · exact Or.inl z
    · exact Or.inr (by rw [a6]; exact z)
  obtain ⟨W2, b1, b2, b3, b4⟩ := h2 A W1 v hb1 a5 a4
  refine ⟨W2, ?_, fun k e he => by rw [b2 k e he, a2 k e he], fun k hk => by rw [b3 k hk, a3 k hk], b4⟩
  rw [wkL_app, a1]
  exact b1
/-- one turn of a loop: the sign, the operand -/
theorem ML_op {m w kd : Nat} {c1 : List Int32} {v1 : uVF} (hl : lvO kd = m) (hm : m < 4) (h1 : (m < 3 → MLv (m + 1) w c1 v1) ∧ (m = 3 → M4v w c1 v1)) : MLo m w (nI (opC kd) :: c1) (fun v u t y n => jnX (nI kd) (v u t y n) (v1 u t y n)) := by
  intro A W v hb h3 hv
  obtain ⟨-, hk⟩ := lvO_1 hl hm
  -- product
  have prod : kd = 42 → ∃ W', wkL A (nI (opC kd) :: c1) (W, w) = some (W', w) ∧ (∀ k e, e < w → W' k e = W k e) ∧ (∀ k, kpE m k → W' k w = W k w) ∧ vlE m W' w = vAt (fun u t y n => jnX (nI kd) (v u t y n) (v1 u t y n)) A := fun e => by
    subst e
    have hm3 : m = 3 := by rw [← hl]; rfl
    subst hm3
    obtain ⟨W1, a1, a2⟩ := h1.2 rfl A (ur_u W 7 w 22)
    have hb1 : bwE W1 w := by
      rcases hb with z | z
      · exact Or.inl z
      · exact Or.inr (by rw [a1 8 w (Nat.le_refl w), uW_n (by decide)]; exact z)
    rw [peW_b hb1, a1 7 w (Nat.le_refl w), uW_s, show decide ((22 : Int32) ≠ 0) = true from by decide, cond_true, a1 6 w (Nat.le_refl w), uW_n (by decide)] at a2
    refine ⟨_, a2, fun k e he => by rw [uW_d (by omega), a1 k e (by omega), uW_d (by omega)], fun k hk => by rw [uW_n (hk.1 rfl).1, a1 k w (Nat.le_refl w), uW_n (hk.1 rfl).2], ?_⟩
    show ur_u W1 6 w (W 6 w * vAt v1 A) 6 w = _
    rw [uW_s, show W 6 w = vAt v A from hv]
    rfl
  have sum : (kd = 43 ∨ kd = 45) → ∃ W', wkL A (nI (opC kd) :: c1) (W, w) = some (W', w) ∧ (∀ k e, e < w → W' k e = W k e) ∧ (∀ k, kpE m k → W' k w = W k w) ∧ vlE m W' w = vAt (fun u t y n => jnX (nI kd) (v u t y n) (v1 u t y n)) A := fun e => by
    have hm2 : m = 2 := by
      rw [← hl]
      rcases e with rfl | rfl <;> rfl
    subst hm2
    obtain ⟨o, ho⟩ : ∃ o : Int32, o = nI (opC kd) := ⟨_, rfl⟩
    have st : stW A o (W, w) = some (ur_u (sW W w) 5 w o, w) := by
      rw [ho]
      rcases e with rfl | rfl <;> rfl
    obtain ⟨W0, hW0⟩ : ∃ W0, W0 = ur_u (sW W w) 5 w o := ⟨_, rfl⟩
    have hb0 : bwE W0 w := by
      rcases hb with z | z
      · exact Or.inl z
      · exact Or.inr (by rw [hW0, uW_n (by decide), sW_k (by decide) (by decide)]; exact z)
    have hp0 : prE 3 W0 w := ⟨by rw [hW0, uW_n (by decide), sW_7], fun z => by omega, fun z => by omega, fun z => by omega⟩
    obtain ⟨W1, a1, a2, a3, a4⟩ := h1.1 (by omega) A W0 hb0 hp0
    refine ⟨W1, ?_, fun k e he => by rw [a2 k e he, hW0, uW_d (by omega), sW_d (by omega)], fun k hk => ?_, ?_⟩
    · show (stW A (nI (opC kd)) (W, w)).bind (wkL A c1) = _
      rw [← ho, st, ← hW0]
      exact a1
    · have := hk.2.1 rfl
      rw [a3 k (by unfold kpE; omega), hW0, uW_n (by omega), sW_k (by omega) (by omega)]
    · show pendV W1 w = _
      have e4 : W1 4 w = vAt v A := by rw [a3 4 (by unfold kpE; omega), hW0, uW_n (by decide), sW_4]; exact hv
      have e5 : W1 5 w = o := by rw [a3 5 (by unfold kpE; omega), hW0, uW_s]
      have e6 : W1 6 w = vAt v1 A := a4
      unfold pendV
      rw [e4, e5, e6, ho]
      rcases e with rfl | rfl <;> rfl
  have cmp : (kd = 60 ∨ kd = 61) → ∃ W', wkL A (nI (opC kd) :: c1) (W, w) = some (W', w) ∧ (∀ k e, e < w → W' k e = W k e) ∧ (∀ k, kpE m k → W' k w = W k w) ∧ vlE m W' w = vAt (fun u t y n => jnX (nI kd) (v u t y n) (v1 u t y n)) A := fun e => by
    have hm2 : m = 1 := by
      rw [← hl]
      rcases e with rfl | rfl <;> rfl
    subst hm2
    have w3 := h3 rfl
    obtain ⟨o, ho⟩ : ∃ o : Int32, o = nI (opC kd) := ⟨_, rfl⟩
    have st : stW A o (W, w) = some (cpW W w o, w) := by
      rw [ho]
      rcases e with rfl | rfl <;> rfl
    obtain ⟨W0, hW0⟩ : ∃ W0, W0 = cpW W w o := ⟨_, rfl⟩
    have c2 : W0 2 w = pendV W w := by rw [hW0]; unfold cpW; rw [uW_n (by decide), uW_n (by decide), uW_n (by decide), uW_s, sW_4]
    have c3 : W0 3 w = o := by rw [hW0]; unfold cpW; rw [uW_n (by decide), uW_n (by decide), uW_s]
    have c4 : W0 4 w = 0 := by rw [hW0]; unfold cpW; rw [uW_n (by decide), uW_s]
    have c5 : W0 5 w = 20 := by rw [hW0]; unfold cpW; rw [uW_s]
    have ck : ∀ k j, k ≠ 2 → k ≠ 3 → k ≠ 4 → k ≠ 5 → W0 k j = sW W w k j := fun k j z2 z3 z4 z5 => by rw [hW0]; unfold cpW; rw [uW_n z5, uW_n z4, uW_n z3, uW_n z2]
    have cd : ∀ k j, j ≠ w → W0 k j = W k j := fun k j z => by rw [hW0]; unfold cpW; rw [uW_d z, uW_d z, uW_d z, uW_d z, sW_d z]
    have hb0 : bwE W0 w := by
      rcases hb with z | z
      · exact Or.inl z
      · exact Or.inr (by rw [ck 8 w (by decide) (by decide) (by decide) (by decide), sW_k (by decide) (by decide)]; exact z)
    have hp0 : prE 2 W0 w := ⟨by rw [ck 7 w (by decide) (by decide) (by decide) (by decide), sW_7], fun _ => ⟨c4, c5⟩, fun z => by omega, fun z => by omega⟩
    obtain ⟨W1, a1, a2, a3, a4⟩ := h1.1 (by omega) A W0 hb0 hp0
    refine ⟨W1, ?_, fun k e he => by rw [a2 k e he, cd k e (by omega)], fun k hk => ?_, ?_⟩
    · show (stW A (nI (opC kd)) (W, w)).bind (wkL A c1) = _
      rw [← ho, st, ← hW0]
      exact a1
    · have := hk.2.2.1 rfl
      rw [a3 k (by unfold kpE; omega), ck k w (by omega) (by omega) (by omega) (by omega), sW_k (by omega) (by omega)]
    · show tstV W1 w = _
      have hv' : pendV W w = vAt v A := by
        have : tstV W w = vAt v A := hv
        unfold tstV at this
        rw [w3, show decide ((0 : Int32) ≠ 25) = true from by decide, cond_true, show decide ((0 : Int32) ≠ 24) = true from by decide, cond_true] at this
        exact this
      have e2 : W1 2 w = vAt v A := by rw [a3 2 (by unfold kpE; omega), c2, hv']
      have e3 : W1 3 w = o := by rw [a3 3 (by unfold kpE; omega), c3]
      have ep : pendV W1 w = vAt v1 A := a4
      unfold tstV
      rw [e2, e3, ep, ho]
      rcases e with rfl | rfl <;> rfl
  have log : (kd = 118 ∨ kd = 119) → ∃ W', wkL A (nI (opC kd) :: c1) (W, w) = some (W', w) ∧ (∀ k e, e < w → W' k e = W k e) ∧ (∀ k, kpE m k → W' k w = W k w) ∧ vlE m W' w = vAt (fun u t y n => jnX (nI kd) (v u t y n) (v1 u t y n)) A := fun e => by
    have hm2 : m = 0 := by
      rw [← hl]
      rcases e with rfl | rfl <;> rfl
    subst hm2
    obtain ⟨o, ho⟩ : ∃ o : Int32, o = nI (opC kd) := ⟨_, rfl⟩
    have st : stW A o (W, w) = some (ur_u (tW W w) 1 w o, w) := by
      rw [ho]
      rcases e with rfl | rfl <;> rfl
    obtain ⟨W0, hW0⟩ : ∃ W0, W0 = ur_u (tW W w) 1 w o := ⟨_, rfl⟩
    have hb0 : bwE W0 w := by
      rcases hb with z | z
      · exact Or.inl z
      · exact Or.inr (by rw [hW0, uW_n (by decide), tW_8]; exact z)
    have hp0 : prE 1 W0 w := ⟨by rw [hW0, uW_n (by decide), tW_7], fun _ => ⟨by rw [hW0, uW_n (by decide), tW_4], by rw [hW0, uW_n (by decide), tW_5]⟩, fun _ => by rw [hW0, uW_n (by decide), tW_3], fun z => by omega⟩
    obtain ⟨W1, a1, a2, a3, a4⟩ := h1.1 (by omega) A W0 hb0 hp0
    refine ⟨W1, ?_, fun k e he => by rw [a2 k e he, hW0, uW_d (by omega), tW_d (by omega)], fun k hk => ?_, ?_⟩
    · show (stW A (nI (opC kd)) (W, w)).bind (wkL A c1) = _
      rw [← ho, st, ← hW0]
      exact a1
    · have h7 := hk.2.2.2 rfl
      rw [a3 k (by unfold kpE; omega), hW0, uW_n (by omega)]
      unfold tW tF
      rw [uW_n (by omega), uW_n (by omega), uW_n (by omega), uW_n (by omega), sW_k (by omega) (by omega)]
    · show fulV W1 w = _
      have e0 : W1 0 w = vAt v A := by rw [a3 0 (by unfold kpE; omega), hW0, uW_n (by decide), tW_0]; exact hv
      have e1 : W1 1 w = o := by rw [a3 1 (by unfold kpE; omega), hW0, uW_s]
      have et : tstV W1 w = vAt v1 A := a4
      unfold fulV
      rw [e0, e1, et, ho]
      rcases e with rfl | rfl <;> rfl
  rcases hk with e | e | e | e | e | e | e
  · exact prod e
  · exact sum (Or.inl e)
  · exact sum (Or.inr e)
  · exact cmp (Or.inl e)
  · exact cmp (Or.inr e)
  · exact log (Or.inl e)
  · exact log (Or.inr e)
theorem MLo_nil {m w : Nat} : MLo m w [] (fun v => v) := fun A W v _ _ hv => ⟨W, rfl, fun _ _ _ => rfl, fun _ _ => rfl, hv⟩
theorem MLo_app {m w : Nat} {c1 c2 : List Int32} {F G : uVF → uVF} (hm : m ≠ 1) (h1 : MLo m w c1 F) (h2 : MLo m w c2 G) : MLo m w (c1 ++ c2) (fun v => G (F v)) := by
  intro A W v hb h3 hv
  obtain ⟨W1, a1, a2, a3, a4⟩ := h1 A W v hb h3 hv
  have hb1 : bwE W1 w := by
    rcases hb with z | z
    · exact Or.inl z
    · exact Or.inr (by rw [a3 8 (by unfold kpE; omega)]; exact z)
  obtain ⟨W2, b1, b2, b3, b4⟩ := h2 A W1 (F v) hb1 (fun z => absurd z hm) a4
  refine ⟨W2, ?_, fun k e he => by rw [b2 k e he, a2 k e he], fun k hk => by rw [b3 k hk, a3 k hk], b4⟩
  rw [wkL_app, a1]
  exact b1
theorem M4_not {w : Nat} {c : List Int32} {v : uVF} (hw : w < 6) (h : M4v (w + 1) c v) : M4v w (30 :: c) (fun u t y n => bif decide (v u t y n ≠ 0) then 0 else 1) := by
  intro A W
  obtain ⟨W1, a1, a2⟩ := h A (oW (ur_u W 8 (w + 1) 1) (w + 1))
  have o8 : ∀ k e, e ≤ w → oW (ur_u W 8 (w + 1) 1) (w + 1) k e = W k e := fun k e he => by
    unfold oW
    rw [uW_d (by omega), uW_d (by omega), uW_d (by omega), uW_d (by omega), uW_d (by omega), uW_d (by omega)]
  have o88 : oW (ur_u W 8 (w + 1) 1) (w + 1) 8 (w + 1) = 1 := by
    unfold oW
    rw [uW_n (by decide), uW_n (by decide), uW_n (by decide), uW_n (by decide), uW_n (by decide), uW_s]
  refine ⟨W1, fun k e he => by rw [a1 k e (by omega), o8 k e he], ?_⟩
  show (stW A 30 (W, w)).bind (wkL A c) = _
  rw [st_30 hw]
  show wkL A c (oW (ur_u W 8 (w + 1) 1) (w + 1), w + 1) = _
  rw [a2]
  have e8 : W1 8 (w + 1) = 1 := by rw [a1 8 (w + 1) (Nat.le_refl _), o88]
  have en : noW W1 (w + 1) (vAt v A) = noW W1 w (vAt (fun u t y n => bif decide (v u t y n ≠ 0) then 0 else 1) A) := by
    show (bif decide (W1 8 (w + 1) ≠ 1) then (w + 1, vAt v A) else noW W1 w (bif decide (vAt v A ≠ 0) then 0 else 1)) = _
    rw [e8, show decide ((1 : Int32) ≠ 1) = false from by decide]
    rfl
  unfold peW
  rw [en]
theorem M4_par {w : Nat} {c : List Int32} {v : uVF} (hw : w < 6) (h : MLv 0 (w + 1) c v) : M4v w (28 :: (c ++ [29])) v := by
  intro A W
  obtain ⟨W0, hW0⟩ : ∃ W0, W0 = oW (ur_u W 8 (w + 1) 0) (w + 1) := ⟨_, rfl⟩
  have o8 : ∀ k e, e ≤ w → W0 k e = W k e := fun k e he => by
    rw [hW0]
    unfold oW
    rw [uW_d (by omega), uW_d (by omega), uW_d (by omega), uW_d (by omega), uW_d (by omega), uW_d (by omega)]
  have hb : bwE W0 (w + 1) := Or.inr (by
    rw [hW0]
    unfold oW
    rw [uW_n (by decide), uW_n (by decide), uW_n (by decide), uW_n (by decide), uW_n (by decide), uW_s]
    decide)
  have hp : prE 0 W0 (w + 1) := by
    refine ⟨?_, fun _ => ⟨?_, ?_⟩, fun _ => ?_, fun _ => ?_⟩ <;> rw [hW0] <;> unfold oW
    · rw [uW_s]
    · rw [uW_n (by decide), uW_n (by decide), uW_s]
    · rw [uW_n (by decide), uW_s]
    · rw [uW_n (by decide), uW_n (by decide), uW_n (by decide), uW_s]
    · rw [uW_n (by decide), uW_n (by decide), uW_n (by decide), uW_n (by decide), uW_s]
  obtain ⟨W1, a1, a2, a3, a4⟩ := h A W0 hb hp
  refine ⟨tW W1 (w + 1), fun k e he => by rw [tW_d (by omega), a2 k e (by omega), o8 k e he], ?_⟩
  show (stW A 28 (W, w)).bind (wkL A (c ++ [29])) = _
  rw [st_28 hw, ← hW0]
  show wkL A (c ++ [29]) (W0, w + 1) = _
  rw [wkL_app, a1]
  show (stW A 29 (W1, w + 1)).bind (wkL A []) = _
  rw [st_29, tW_0, show fulV W1 (w + 1) = vAt v A from a4]
  rfl

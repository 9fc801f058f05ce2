/-! A minute is the same on both sides -/
theorem fsB_cases (x : Int32) : ∀ (n j : Nat), fsB x n j = -1 ∨ ∃ z, j ≤ z ∧ z < j + n ∧ fsB x n j = nI z ∧ bt x z = true
  | 0, _ => Or.inl rfl
  | n + 1, j => by
    show (bif bt x j then nI j else fsB x n (j + 1)) = -1 ∨ ∃ z, j ≤ z ∧ z < j + (n + 1) ∧ (bif bt x j then nI j else fsB x n (j + 1)) = nI z ∧ bt x z = true
    cases h : bt x j with
    | true => exact Or.inr ⟨j, Nat.le_refl j, by omega, rfl, h⟩
    | false =>
      rcases fsB_cases x n (j + 1) with q | ⟨z, h1, h2, h3, h4⟩
      · exact Or.inl q
      · exact Or.inr ⟨z, by omega, by omega, h3, h4⟩
/-- a person of both -/
def cR (V : Nat → Nat → Int32) (U : Int32) (N : Nat) (S : Nat → Int32) (p : Nat) : Prop :=
  (S (4 + p) = V 1 p ∧ S (14 + p) = V 2 p ∧ S (19 + p) = V 4 p ∧ S (24 + p) = V 5 p) ∧
  ∃ w, w < N ∧ V 1 p = nI w ∧ ((V 2 p = -1 ∧ bt U w = false) ∨ (bt U w = true ∧ ∃ k q, k ≤ 30 ∧ V 2 p = nI k ∧ q < N ∧ V 3 p = nI q ∧ S (9 + p) = nI q ∧ bt U q = false))
theorem rN_iff {V : Nat → Nat → Int32} {U : Int32} {N P : Nat} {S : Nat → Int32} : rN V U N P S ↔ (S 0 = V 0 8 ∧ S 1 = V 0 7 ∧ S 2 = V 0 6 ∧ S 3 = V 0 5) ∧ (∀ p, p < P → cR V U N S p) ∧ (∀ p, P ≤ p → p < 5 → S (24 + p) = 0) ∧ (∀ i, i < 32 → bt (V 0 6) i = true → i < N ∧ bt U i = false) := by
  unfold rN cR
  constructor
  · rintro ⟨h1, h2, h3, h4, h5⟩
    exact ⟨h1, fun p hp => ⟨h2 p hp, h4 p hp⟩, h3, h5⟩
  · rintro ⟨h1, h2, h3, h5⟩
    exact ⟨h1, fun p hp => (h2 p hp).1, h3, fun p hp => (h2 p hp).2, h5⟩
section URR2
variable {f l V V' : Nat → Nat → Int32} {b N P p j w : Nat} {S S' : Nat → Int32} {B o U : Int32}
theorem cR_congr (hV : ∀ i, i ≠ 0 → V' i p = V i p) (h4 : S' (4 + p) = S (4 + p)) (h9 : S' (9 + p) = S (9 + p)) (h14 : S' (14 + p) = S (14 + p)) (h19 : S' (19 + p) = S (19 + p)) (h24 : S' (24 + p) = S (24 + p)) (h : cR V U N S p) : cR V' U N S' p := by
  unfold cR
  rw [hV 1 (by decide), hV 2 (by decide), hV 3 (by decide), hV 4 (by decide), hV 5 (by decide), h4, h9, h14, h19, h24]
  exact h
theorem r_opS (hl : rL f b l N P) {i : Nat} (hi : i < 32) : bt (opS (f (b + 4)) N B) i = (decide (i < N) && (!bt (l 0 9) i && !bt B i)) := by
  unfold opS
  rw [r_uns hl, b_and, b_and, b_mask N hl.1.1 i hi, b_not hi, b_not hi, Bool.and_assoc]
theorem r_sm8 (hl : rL f b l N P) (hw : w < N) : sm8 (l 3 w) := fun i h1 h2 => hl.2.2.2.2.1 w i hw (by have := hl.1.1; omega) h2
theorem r_exit (hl : rL f b l N P) (hw : w < N) (hu : bt (l 0 9) w = true) : f (b + 5) w &&& opS (f (b + 4)) N B = l 3 w &&& (B ^^^ (-1)) := by
  apply b_ext
  intro i hi
  rw [b_and, b_and, r_opS hl hi, b_not hi, (hl.2.2.1 w hw).2.1]
  cases h : bt (l 3 w) i with
  | false => rfl
  | true =>
    have hiN : i < N := by
      apply Nat.lt_of_not_le
      intro z
      rw [hl.2.2.2.2.1 w i hw z hi] at h
      cases h
    rw [decide_eq_true hiN, hl.2.2.2.2.2.2.1 w i hw hiN h hu]
    rfl
theorem psV_e2 (l : Nat → Nat → Int32) (p : Nat) (o : Int32) (V : Nat → Nat → Int32) : psV l p (o, V) = bif decide (V 2 p ≤ 0) then (o, V) else (bif (cmV l V p).1 then o ||| ((1 : Int32) <<< (nI p &&& 31)) else o, (cmV l V p).2) := rfl
theorem psM_e2 (H D : Nat → Int32) (N p : Nat) (o : Int32) (S : Nat → Int32) : psM H D N p (o, S) = bif decide (1 ≤ S (14 + p)) then (bif decide (S (14 + p) - 1 ≤ 0) then (bif decide (0 ≤ mmE H D N S p) then (o ||| ((1 : Int32) <<< (nI p &&& 31)), mm2 S p (mmE H D N S p)) else (o, mm1 S p)) else (o, mm1 S p)) else (o, S) := rfl
/-- a person's minute -/
theorem r_pstep (hl : rL f b l N P) (h2 : S 2 = V 0 6) (hB : ∀ i, i < 32 → bt (V 0 6) i = true → i < N ∧ bt (l 0 9) i = false) (hc : cR V (l 0 9) N S p) : ∃ c : Bool, (psV l p (o, V)).1 = (bif c then o ||| ((1 : Int32) <<< (nI p &&& 31)) else o) ∧ (psM (f (b + 4)) (f (b + 5)) N p (o, S)).1 = (bif c then o ||| ((1 : Int32) <<< (nI p &&& 31)) else o) ∧ (psM (f (b + 4)) (f (b + 5)) N p (o, S)).2 1 = (bif c then S 1 + 1 else S 1) ∧ cR (psV l p (o, V)).2 (l 0 9) N (psM (f (b + 4)) (f (b + 5)) N p (o, S)).2 p := by
  have hN8 := hl.1.1
  obtain ⟨⟨c4, c14, c19, c24⟩, w, hw, hw1, ⟨hm, hu⟩ | ⟨hu, k, q, hk, hm, hq, hq3, hq9, huq⟩⟩ := id hc
  · have x1 : psV l p (o, V) = (o, V) := by rw [psV_e2, hm]; rfl
    have y1 : psM (f (b + 4)) (f (b + 5)) N p (o, S) = (o, S) := by rw [psM_e2, c14, hm]; rfl
    rw [x1, y1]
    exact ⟨false, rfl, rfl, rfl, hc⟩
  · cases k with
    | zero =>
      have x1 : psV l p (o, V) = (o, V) := by rw [psV_e2, hm]; rfl
      have y1 : psM (f (b + 4)) (f (b + 5)) N p (o, S) = (o, S) := by rw [psM_e2, c14, hm]; rfl
      rw [x1, y1]
      exact ⟨false, rfl, rfl, rfl, hc⟩
    | succ k =>
      have hV0 : decide (V 2 p ≤ 0) = false := by rw [hm]; exact decide_eq_false (nI_nle (by omega) (by omega))
      have hM1 : decide (1 ≤ S (14 + p)) = true := by rw [c14, hm]; exact decide_eq_true (nI_le (a := 1) (by omega) (by omega))
      have hx := psV_e2 l p o V
      have hy := psM_e2 (f (b + 4)) (f (b + 5)) N p o S
      rw [hV0, cond_false] at hx
      rw [hM1, cond_true] at hy
      have v1 : V 2 p - 1 = nI k := by rw [hm, nI_pred]
      have s1 : S (14 + p) - 1 = nI k := by rw [c14, v1]
      -- still inside
      have still : cR (cm1 V p) (l 0 9) N (mm1 S p) p := by
        unfold cm1 mm1
        refine ⟨⟨?_, ?_, ?_, ?_⟩, w, hw, ?_, Or.inr ⟨hu, k, q, by omega, ?_, hq, ?_, ?_, huq⟩⟩
        · rw [up_n (by omega), up_n (by omega), c4]; rfl
        · rw [up_n (by omega), up_s, c14, ur_ua (by decide), ur_us]
        · rw [up_n (by omega), up_n (by omega), c19]; rfl
        · rw [up_s, c24, ur_us]
        · rw [← hw1]; rfl
        · rw [ur_ua (by decide), ur_us, v1]
        · rw [← hq3]; rfl
        · rw [up_n (by omega), up_n (by omega), hq9]
      have m1 : mm1 S p 1 = S 1 := by unfold mm1; rw [up_n (by omega), up_n (by omega)]
      unfold cmV at hx
      rw [v1] at hx
      rw [s1] at hy
      cases k with
      | succ k =>
        have h0 : decide (nI (k + 1) ≤ (0 : Int32)) = false := decide_eq_false (nI_nle (by omega) (by omega))
        rw [h0, cond_false] at hx hy
        rw [hx, hy]
        exact ⟨false, rfl, rfl, m1, still⟩
      | zero =>
        have h0 : decide (nI 0 ≤ (0 : Int32)) = true := by decide
        rw [h0, cond_true] at hx hy
        -- where one comes out
        have eX : cmE l V p = bif bt (V 0 6) q then fsB (l 3 w &&& (V 0 6 ^^^ (-1))) 8 0 else nI q := by
          unfold cmE exV
          rw [hw1, hq3, ix_nI (by omega), ix_nI (by omega)]
        have eM : mmE (f (b + 4)) (f (b + 5)) N S p = cmE l V p := by
          unfold mmE
          rw [eX, c4, hw1, hq9, ix_nI (by omega), ix_nI (by omega), h2, r_exit hl hw hu, r_opS hl (by omega), decide_eq_true hq, huq]
          cases bt (V 0 6) q <;> rfl
        rw [eM] at hy
        have cs : cmE l V p = -1 ∨ ∃ z, z < N ∧ cmE l V p = nI z ∧ bt (l 0 9) z = false := by
          rw [eX]
          cases hbq : bt (V 0 6) q with
          | false => exact Or.inr ⟨q, hq, rfl, huq⟩
          | true =>
            rcases fsB_cases (l 3 w &&& (V 0 6 ^^^ (-1))) 8 0 with h | ⟨z, z1, z2, z3, z4⟩
            · exact Or.inl h
            · refine Or.inr ⟨z, ?_, z3, ?_⟩
              · apply Nat.lt_of_not_le
                intro y
                rw [b_and, hl.2.2.2.2.1 w z hw y (by omega)] at z4
                cases z4
              · rw [b_and, Bool.and_eq_true] at z4
                have hzN : z < N := by
                  apply Nat.lt_of_not_le
                  intro y
                  rw [hl.2.2.2.2.1 w z hw y (by omega)] at z4
                  cases z4.1
                exact hl.2.2.2.2.2.2.1 w z hw hzN z4.1 hu
        rcases cs with hE | ⟨z, hz, hE, huz⟩
        · rw [hE] at hx hy
          rw [show decide ((-1 : Int32) = -1) = true from rfl, cond_true] at hx
          rw [show decide ((0 : Int32) ≤ -1) = false from by decide, cond_false] at hy
          rw [hx, hy]
          exact ⟨false, rfl, rfl, m1, still⟩
        · rw [hE] at hx hy
          rw [decide_eq_false (nI_ne_m1 (by omega)), cond_false] at hx
          rw [decide_eq_true (nI_pos' (by omega)), cond_true] at hy
          rw [hx, hy]
          refine ⟨true, rfl, rfl, ?_, ?_⟩
          · show mm2 S p (nI z) 1 = S 1 + 1
            unfold mm2
            rw [up_s]
          · show cR (ur_u (ur_u (cm1 V p) 1 p (nI z)) 2 p (-1)) (l 0 9) N (mm2 S p (nI z)) p
            unfold mm2
            refine ⟨⟨?_, ?_, ?_, ?_⟩, z, hz, ?_, Or.inl ⟨?_, huz⟩⟩
            · rw [up_n (by omega), up_n (by omega), up_s, ur_ua (by decide), ur_us]
            · rw [up_n (by omega), up_s, ur_us]
            · rw [up_n (by omega), up_n (by omega), up_n (by omega)]
              exact still.1.2.2.1
            · rw [up_n (by omega), up_n (by omega), up_n (by omega)]
              exact still.1.2.2.2
            · rw [ur_ua (by decide), ur_us]
            · rw [ur_us]
theorem cn_tab : ∀ p, p < 5 → ∀ k, k < 2 ^ p → cnB (nI k ||| ((1 : Int32) <<< (nI p &&& 31))) = cnB (nI k) + 1 ∧ nI k ||| ((1 : Int32) <<< (nI p &&& 31)) = nI (k + 2 ^ p) := by decide +kernel
theorem bc_lt {k : Nat} (h : k < 256) : bc32 (nI k) = cnB (nI k) := bc_tab k h
theorem r_pas (hl : rL f b l N P) (hn : rN V (l 0 9) N P S) : (pasV l P V).1 = (pasM (f (b + 4)) (f (b + 5)) N P S).1 ∧ rN (pasV l P V).2 (l 0 9) N P (pasM (f (b + 4)) (f (b + 5)) N P S).2 := by
  have hP5 := hl.1.2
  obtain ⟨n1, n2, n3, n4⟩ := rN_iff.mp hn
  have key : ∀ j, j ≤ P → ∃ k, k < 2 ^ j ∧ (itr (psV l) j (0, V)).1 = nI k ∧ (itr (psM (f (b + 4)) (f (b + 5)) N) j (0, S)).1 = nI k ∧ (itr (psM (f (b + 4)) (f (b + 5)) N) j (0, S)).2 1 = S 1 + cnB (nI k) ∧ (itr (psV l) j (0, V)).2 0 = V 0 ∧ (∀ p, p < P → cR (itr (psV l) j (0, V)).2 (l 0 9) N (itr (psM (f (b + 4)) (f (b + 5)) N) j (0, S)).2 p) ∧ (∀ i, i ≠ 1 → i < 4 → (itr (psM (f (b + 4)) (f (b + 5)) N) j (0, S)).2 i = S i) ∧ (∀ p, P ≤ p → p < 5 → (itr (psM (f (b + 4)) (f (b + 5)) N) j (0, S)).2 (24 + p) = S (24 + p)) := by
    intro j
    induction j with
    | zero => intro _; exact ⟨0, by decide, rfl, rfl, by show S 1 = S 1 + cnB (nI 0); rw [show cnB (nI 0) = 0 from by decide +kernel]; exact (Int32.add_zero _).symm, rfl, n2, fun _ _ _ => rfl, fun _ _ _ => rfl⟩
    | succ j ih =>
      intro hj
      obtain ⟨k, k1, k2, k3, k4, k5, k6, k7, k8⟩ := ih (by omega)
      have e1 : itr (psV l) (j + 1) (0, V) = psV l j (nI k, (itr (psV l) j (0, V)).2) := by
        show psV l j (itr (psV l) j (0, V)) = _
        rw [← k2]
      have e2 : itr (psM (f (b + 4)) (f (b + 5)) N) (j + 1) (0, S) = psM (f (b + 4)) (f (b + 5)) N j (nI k, (itr (psM (f (b + 4)) (f (b + 5)) N) j (0, S)).2) := by
        show psM (f (b + 4)) (f (b + 5)) N j (itr (psM (f (b + 4)) (f (b + 5)) N) j (0, S)) = _
        rw [← k3]
      obtain ⟨c, c1, c2, c3, c4⟩ := r_pstep (o := nI k) hl (show (itr (psM (f (b + 4)) (f (b + 5)) N) j (0, S)).2 2 = (itr (psV l) j (0, V)).2 0 6 by rw [k7 2 (by decide) (by decide), k5, n1.2.2.1]) (by rw [k5]; exact n4) (k6 j (by omega))
      have oth : ∀ p, p < P → cR (itr (psV l) (j + 1) (0, V)).2 (l 0 9) N (itr (psM (f (b + 4)) (f (b + 5)) N) (j + 1) (0, S)).2 p := by
        intro p hp
        rw [e1, e2]
        by_cases hpj : p = j
        · subst hpj; exact c4
        · refine cR_congr (fun i hi => psV_col hi hpj) ?_ ?_ ?_ ?_ ?_ (k6 p hp) <;> exact psM_col (by omega) (by omega) (by omega) (by omega)
      have t7 : ∀ i, i ≠ 1 → i < 4 → (itr (psM (f (b + 4)) (f (b + 5)) N) (j + 1) (0, S)).2 i = S i := fun i h1 h2 => by
        rw [e2, psM_col h1 (by omega) (by omega) (by omega)]
        exact k7 i h1 h2
      have t8 : ∀ p, P ≤ p → p < 5 → (itr (psM (f (b + 4)) (f (b + 5)) N) (j + 1) (0, S)).2 (24 + p) = S (24 + p) := fun p h1 h2 => by
        rw [e2, psM_col (by omega) (by omega) (by omega) (by omega)]
        exact k8 p h1 h2
      have t5 : (itr (psV l) (j + 1) (0, V)).2 0 = V 0 := by rw [e1, psV_0]; exact k5
      have tab := cn_tab j (by omega) k k1
      cases c with
      | false =>
        refine ⟨k, Nat.lt_trans k1 (Nat.pow_lt_pow_right (by decide) (Nat.lt_succ_self j)), by rw [e1, c1]; rfl, by rw [e2, c2]; rfl, by rw [e2, c3]; exact k4, t5, oth, t7, t8⟩
      | true =>
        refine ⟨k + 2 ^ j, by rw [Nat.pow_succ]; omega, by rw [e1, c1]; exact tab.2, by rw [e2, c2]; exact tab.2, ?_, t5, oth, t7, t8⟩
        rw [e2, c3, k4]
        show S 1 + cnB (nI k) + 1 = _
        rw [← tab.2, tab.1, Int32.add_assoc]
  obtain ⟨k, k1, k2, k3, k4, k5, k6, k7, k8⟩ := key P (Nat.le_refl P)
  have hk : k < 256 := Nat.lt_of_lt_of_le k1 (Nat.le_trans (Nat.pow_le_pow_right (by decide) hP5) (by decide))
  unfold pasV pasM pasF
  generalize (itr (psM (f (b + 4)) (f (b + 5)) N) P (0, S)) = y at *
  generalize (itr (psV l) P (0, V)) = x at *
  obtain ⟨x1, V1⟩ := x
  obtain ⟨y1, S1⟩ := y
  dsimp only at k2 k3 k4 k5 k6 k7 k8 ⊢
  subst k2 k3
  refine ⟨rfl, rN_iff.mpr ⟨⟨?_, ?_, ?_, ?_⟩, fun p hp => ?_, fun p h1 h2 => ?_, ?_⟩⟩
  · rw [up_s, ur_us, k7 0 (by decide) (by decide), n1.1, k5]
  · rw [up_n (by decide), ur_un (by decide), ur_us, k4, n1.2.1, bc_lt hk, k5]
  · rw [up_n (by decide), ur_un (by decide), ur_un (by decide), k7 2 (by decide) (by decide), n1.2.2.1, k5]
  · rw [up_n (by decide), ur_un (by decide), ur_un (by decide), k7 3 (by decide) (by decide), n1.2.2.2, k5]
  · refine cR_congr (fun i hi => ?_) (up_n (by omega)) (up_n (by omega)) (up_n (by omega)) (up_n (by omega)) (up_n (by omega)) (k6 p hp)
    rw [ur_ua hi, ur_ua hi]
  · rw [up_n (by omega), k8 p h1 h2]
    exact n3 p h1 h2
  · rw [ur_un (by decide), ur_un (by decide), k5]
    exact n4
/-- what a minute wants -/
theorem r_okV (hl : rL f b l N P) (hn : rN V (l 0 9) N P S) : okV l V P := fun p hp h => by
  have hN8 := hl.1.1
  obtain ⟨w, hw, e1, ⟨e2, -⟩ | ⟨-, k, q, hk, e2, hq, e3, -⟩⟩ := hn.2.2.2.1 p hp
  · rw [e2] at h; exact absurd h (by decide)
  · exact ⟨w, q, by omega, e1, by omega, e3, r_sm8 hl hw⟩
theorem r_okM (hl : rL f b l N P) (hn : rN V (l 0 9) N P S) : okM (f (b + 5)) S N P := fun p hp h => by
  have hN8 := hl.1.1
  obtain ⟨w, hw, e1, ⟨e2, -⟩ | ⟨-, k, q, hk, e2, hq, -, e3, -⟩⟩ := hn.2.2.2.1 p hp
  · rw [(hn.2.1 p hp).2.1, e2] at h; exact absurd h (by decide)
  · exact ⟨w, q, by omega, by rw [(hn.2.1 p hp).1, e1], hq, e3⟩
end URR2

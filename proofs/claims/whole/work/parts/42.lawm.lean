/-! The reference's law: values by depths -/
def oW (W : Nat → Nat → Int32) (d : Nat) : Nat → Nat → Int32 := ur_u (ur_u (ur_u (ur_u (ur_u W 1 d 0) 3 d 0) 4 d 0) 5 d 20) 7 d 0
def sW (W : Nat → Nat → Int32) (d : Nat) : Nat → Nat → Int32 := ur_u (ur_u W 4 d (bif decide (W 5 d ≠ 21) then W 4 d + W 6 d else W 4 d - W 6 d)) 7 d 0
def tV1 (W : Nat → Nat → Int32) (d : Nat) : Int32 := bif decide (W 3 d ≠ 24) then W 4 d else bif decide (W 4 d ≤ W 2 d) then 0 else 1
def tV2 (W : Nat → Nat → Int32) (d : Nat) (v : Int32) : Int32 := bif decide (W 3 d ≠ 25) then v else bif decide (W 2 d ≠ W 4 d) then 0 else 1
def tV3 (W : Nat → Nat → Int32) (d : Nat) (v : Int32) : Int32 := bif decide (W 1 d ≠ 26) then v else bif decide (W 0 d = 0) then 0 else bif decide (v = 0) then 0 else 1
def tV4 (W : Nat → Nat → Int32) (d : Nat) (v : Int32) : Int32 := bif decide (W 1 d ≠ 27) then v else bif decide (W 0 d ≠ 0) then 1 else bif decide (v = 0) then 0 else 1
def tV (W : Nat → Nat → Int32) (d : Nat) : Int32 := tV4 W d (tV3 W d (tV2 W d (tV1 W d)))
def tF (W : Nat → Nat → Int32) (d : Nat) (v : Int32) : Nat → Nat → Int32 := ur_u (ur_u (ur_u (ur_u W 0 d v) 3 d 0) 4 d 0) 5 d 20
def tW (W : Nat → Nat → Int32) (d : Nat) : Nat → Nat → Int32 := tF (sW W d) d (tV (sW W d) d)
def noW (W : Nat → Nat → Int32) : Nat → Int32 → Nat × Int32
  | 0, v => (0, v)
  | d + 1, v => bif decide (W 8 (d + 1) ≠ 1) then (d + 1, v) else noW W d (bif decide (v ≠ 0) then 0 else 1)
def peW (W : Nat → Nat → Int32) (d : Nat) (v : Int32) : (Nat → Nat → Int32) × Nat := (ur_u W 6 (noW W d v).1 (bif decide (W 7 (noW W d v).1 ≠ 0) then W 6 (noW W d v).1 * (noW W d v).2 else (noW W d v).2), (noW W d v).1)
def cpW (W : Nat → Nat → Int32) (d : Nat) (c : Int32) : Nat → Nat → Int32 := ur_u (ur_u (ur_u (ur_u (sW W d) 2 d (sW W d 4 d)) 3 d c) 4 d 0) 5 d 20
def opW (W : Nat → Nat → Int32) (d : Nat) (c : Int32) : Option ((Nat → Nat → Int32) × Nat) := bif decide (d < 6) then some (oW (ur_u W 8 (d + 1) (bif decide (c ≠ 30) then 0 else 1)) (d + 1), d + 1) else none
def clW (W : Nat → Nat → Int32) : Nat → Option ((Nat → Nat → Int32) × Nat)
  | 0 => none
  | d + 1 => some (peW (tW W (d + 1)) d (tW W (d + 1) 0 (d + 1)))
def vaW (W : Nat → Nat → Int32) (d : Nat) (c v : Int32) : Option ((Nat → Nat → Int32) × Nat) := bif decide (c ≠ 29) then some (peW W d v) else clW W d
def stW (A : Nat → Int32) (c : Int32) (x : (Nat → Nat → Int32) × Nat) : Option ((Nat → Nat → Int32) × Nat) :=
  bif decide (c = 28) then opW x.1 x.2 c else bif decide (c ≠ 30) then (bif decide (c = 20) then some (ur_u (sW x.1 x.2) 5 x.2 c, x.2) else bif decide (c ≠ 21) then (bif decide (c ≠ 22) then (bif decide (c = 24) then some (cpW x.1 x.2 c, x.2) else bif decide (c ≠ 25) then (bif decide (c = 26) then some (ur_u (tW x.1 x.2) 1 x.2 c, x.2) else bif decide (c ≠ 27) then (bif decide (c < 100) then (bif decide ((20 : Int32) ≤ c) then vaW x.1 x.2 c 0 else bif decide (0 ≤ c) then vaW x.1 x.2 c (A (ix c)) else none) else vaW x.1 x.2 c (c - 100)) else some (ur_u (tW x.1 x.2) 1 x.2 c, x.2)) else some (cpW x.1 x.2 c, x.2)) else some (ur_u x.1 7 x.2 c, x.2)) else some (ur_u (sW x.1 x.2) 5 x.2 c, x.2)) else opW x.1 x.2 c
def wkR (cs A : Nat → Int32) : Nat → Nat → (Nat → Nat → Int32) × Nat → Option ((Nat → Nat → Int32) × Nat)
  | 0, _, x => some x
  | n + 1, k, x => (stW A (cs k) x).bind (wkR cs A n (k + 1))
def wkM (cs A : Nat → Int32) (k n : Nat) (W : Nat → Nat → Int32) : Option Int32 := (wkR cs A n k (oW W 0, 0)).bind fun x => some (tW x.1 0 0 0)
def bW (f : Nat → Nat → Int32) (b : Nat) (W : Nat → Nat → Int32) : Prop := ∀ i, i < 9 → f (b + (15 + i)) = W i
def TW (b : Nat) : Nat → Nat → Prop := fun a _ => b + 15 ≤ a ∧ a < b + 24
def TV (b : Nat) : Nat → Nat → Prop := fun a _ => b + 15 ≤ a ∧ a < b + 25
theorem bW.u {f W : Nat → Nat → Int32} {b : Nat} (h : bW f b W) (i0 k : Nat) (v : Int32) : bW (ur_u f (b + (15 + i0)) k v) b (ur_u W i0 k v) := fun i hi => by
  funext x
  unfold ur_u
  by_cases h1 : i = i0
  · subst h1
    rw [if_pos rfl, if_pos rfl, h i hi]
  · rw [if_neg h1, if_neg (by omega), h i hi]
theorem noW_le {W : Nat → Nat → Int32} : ∀ (d : Nat) (v : Int32), (noW W d v).1 ≤ d
  | 0, _ => Nat.le_refl 0
  | d + 1, v => by
    show (bif decide (W 8 (d + 1) ≠ 1) then (d + 1, v) else noW W d _).1 ≤ d + 1
    cases decide (W 8 (d + 1) ≠ 1)
    · exact Nat.le_succ_of_le (noW_le d _)
    · exact Nat.le_refl _
section URW
variable {s : List (Nat ⊕ (Nat × Nat))} {f W : Nat → Nat → Int32} {g : Nat → Nat → Int64} {R : Nat → Nat → Option Nat} {b d e j k n : Nat} {r v c : Int32} {A cs : Nat → Int32}
theorem t_opens (hM : oModel s R b) (hb : bW f b W) (he : e < 7) : ∃ f', ur_call ur_G (d + 1) 152 [.ref b, .int (nI e)] (s, f, g, R) = some (0, (s, f', g, R)) ∧ bW f' b (oW W e) ∧ eqT (TW b) f f' := by
  refine ⟨ur_u (ur_u (ur_u (ur_u (ur_u f (b + 16) e 0) (b + 18) e 0) (b + 19) e 0) (b + 20) e 20) (b + 22) e 0, ur_cl hM.rcv rfl (e_X10_opens_0 _ _ _ ?_), (((((hb.u 1 e 0).u 3 e 0).u 4 e 0).u 5 e 20).u 7 e 0), ?_⟩
  · simp only [hM.r25, hM.w16 he, hM.r27, hM.w18 he, hM.r28, hM.w19 he, hM.r29, hM.w20 he, hM.r31, hM.w22 he, Option.bind_some]
  · exact ((((eqT_u (T := TW b) (by unfold TW; omega)).u (by unfold TW; omega)).u (by unfold TW; omega)).u (by unfold TW; omega)).u (by unfold TW; omega)
theorem t_sums (hM : oModel s R b) (hb : bW f b W) (he : e < 7) : ∃ f', ur_call ur_G (d + 1) 153 [.ref b, .int (nI e)] (s, f, g, R) = some (0, (s, f', g, R)) ∧ bW f' b (sW W e) ∧ eqT (TW b) f f' := by
  have h4 : f (b + 19) = W 4 := hb 4 (by decide)
  have h5 : f (b + 20) = W 5 := hb 5 (by decide)
  have h6 : f (b + 21) = W 6 := hb 6 (by decide)
  refine ⟨ur_u (ur_u f (b + 19) e (bif decide (W 5 e ≠ 21) then W 4 e + W 6 e else W 4 e - W 6 e)) (b + 22) e 0, ur_cl hM.rcv rfl (e_X10_sums_0 _ _ _ ?_), (hb.u 4 e _).u 7 e 0, ?_⟩
  · simp only [hM.r28, hM.r29, hM.a20 he, hM.a19 he, hM.r30, hM.a21 he, hM.w19 he, hM.r31, hM.w22 he, Option.bind_some, h4, h5, h6]
    cases decide (W 5 e ≠ 21) <;> rfl
  · exact (eqT_u (T := TW b) (by unfold TW; omega)).u (by unfold TW; omega)
theorem t_tests (hM : oModel s R b) (hb : bW f b W) (he : e < 7) : ∃ f', ur_call ur_G (d + 2) 154 [.ref b, .int (nI e)] (s, f, g, R) = some (0, (s, f', g, R)) ∧ bW f' b (tW W e) ∧ eqT (TW b) f f' := by
  obtain ⟨f1, c1, c2, c3⟩ := t_sums (d := d) (g := g) hM hb he
  have h0 : f1 (b + 15) = sW W e 0 := c2 0 (by decide)
  have h1 : f1 (b + 16) = sW W e 1 := c2 1 (by decide)
  have h2 : f1 (b + 17) = sW W e 2 := c2 2 (by decide)
  have h3 : f1 (b + 18) = sW W e 3 := c2 3 (by decide)
  have h4 : f1 (b + 19) = sW W e 4 := c2 4 (by decide)
  have k136 : ∀ v, ur_at ur_G (d + 1) 154 (136, [some (.ref b), some (.int (nI e)), some (.int v)], [], (s, f1, g, R)) = some (0, (s, ur_u (ur_u (ur_u (ur_u f1 (b + 15) e v) (b + 18) e 0) (b + 19) e 0) (b + 20) e 20, g, R)) := by
    intro v
    refine e_X10_tests_136 _ _ _ _ ?_
    simp only [hM.r24, hM.w15 he, hM.r27, hM.w18 he, hM.r28, hM.w19 he, hM.r29, hM.w20 he, Option.bind_some]
  have k106 : ∀ v, ur_at ur_G (d + 1) 154 (106, [some (.ref b), some (.int (nI e)), some (.int v)], [], (s, f1, g, R)) = some (0, (s, ur_u (ur_u (ur_u (ur_u f1 (b + 15) e (tV4 (sW W e) e v)) (b + 18) e 0) (b + 19) e 0) (b + 20) e 20, g, R)) := by
    intro v
    refine e_X10_tests_106 _ _ _ _ ?_
    simp only [hM.r25, hM.a16 he, hM.r24, hM.a15 he, Option.bind_some, h1, h0, k136]
    unfold tV4
    cases decide (sW W e 1 e ≠ 27)
    · cases decide (sW W e 0 e ≠ 0)
      · cases decide (v = 0) <;> rfl
      · rfl
    · rfl
  have k76 : ∀ v, ur_at ur_G (d + 1) 154 (76, [some (.ref b), some (.int (nI e)), some (.int v)], [], (s, f1, g, R)) = some (0, (s, ur_u (ur_u (ur_u (ur_u f1 (b + 15) e (tV4 (sW W e) e (tV3 (sW W e) e v))) (b + 18) e 0) (b + 19) e 0) (b + 20) e 20, g, R)) := by
    intro v
    refine e_X10_tests_76 _ _ _ _ ?_
    simp only [hM.r25, hM.a16 he, hM.r24, hM.a15 he, Option.bind_some, h1, h0, k106]
    conv => rhs; unfold tV3
    cases decide (sW W e 1 e ≠ 26)
    · cases decide (sW W e 0 e = 0)
      · cases decide (v = 0) <;> rfl
      · rfl
    · rfl
  have k44 : ∀ v, ur_at ur_G (d + 1) 154 (44, [some (.ref b), some (.int (nI e)), some (.int v)], [], (s, f1, g, R)) = some (0, (s, ur_u (ur_u (ur_u (ur_u f1 (b + 15) e (tV4 (sW W e) e (tV3 (sW W e) e (tV2 (sW W e) e v)))) (b + 18) e 0) (b + 19) e 0) (b + 20) e 20, g, R)) := by
    intro v
    refine e_X10_tests_44 _ _ _ _ ?_
    simp only [hM.r27, hM.a18 he, hM.r26, hM.a17 he, hM.r28, hM.a19 he, Option.bind_some, h2, h3, h4, k76]
    conv => rhs; unfold tV2
    cases decide (sW W e 3 e ≠ 25)
    · cases decide (sW W e 2 e ≠ sW W e 4 e) <;> rfl
    · rfl
  refine ⟨ur_u (ur_u (ur_u (ur_u f1 (b + 15) e (tV (sW W e) e)) (b + 18) e 0) (b + 19) e 0) (b + 20) e 20, ur_cl hM.rcv rfl (e_X10_tests_0 _ _ _ ?_), ((((c2.u 0 e _).u 3 e 0).u 4 e 0).u 5 e 20), ?_⟩
  · simp only [c1, hM.r28, hM.a19 he, hM.r27, hM.a18 he, hM.r26, hM.a17 he, Option.bind_some, h2, h3, h4, k44]
    unfold tV
    conv => rhs; unfold tV1
    cases decide (sW W e 3 e ≠ 24)
    · cases decide (sW W e 4 e ≤ sW W e 2 e) <;> rfl
    · rfl
  · exact (((c3.u (by unfold TW; omega)).u (by unfold TW; omega)).u (by unfold TW; omega)).u (by unfold TW; omega)
/-- a value has come: who waits for it -/
theorem t_268 (hM : oModel s R b) (hb : bW f b W) (hk : k < 2 ^ 31) : ∀ (e : Nat) (v : Int32), e < 7 → ∃ f', bW f' b (peW W e v).1 ∧ eqT (TW b) f f' ∧ ∀ r, ur_at ur_G d 155 (14, [some (.ref b), some (.int 0), some (.int (nI (peW W e v).2)), some (.int (nI (k + 1))), none, none], [], (s, f', g, R)) = some r → ur_at ur_G d 155 (268, [some (.ref b), some (.int 0), some (.int (nI e)), some (.int (nI k)), none, some (.int v)], [], (s, f, g, R)) = some r := by
  have h6 : f (b + 21) = W 6 := hb 6 (by decide)
  have h7 : f (b + 22) = W 7 := hb 7 (by decide)
  have h8 : f (b + 23) = W 8 := hb 8 (by decide)
  have k300 : ∀ (e : Nat) (v : Int32), e < 7 → ∀ r, ur_at ur_G d 155 (14, [some (.ref b), some (.int 0), some (.int (nI e)), some (.int (nI (k + 1))), none, none], [], (s, ur_u f (b + 21) e (bif decide (W 7 e ≠ 0) then W 6 e * v else v), g, R)) = some r → ur_at ur_G d 155 (300, [some (.ref b), some (.int 0), some (.int (nI e)), some (.int (nI k)), none, some (.int v)], [], (s, f, g, R)) = some r := by
    intro e v he r hr
    refine e_X10_worked_300 _ _ _ _ _ _ ?_
    simp only [hM.r30, hM.r31, hM.a22 he, hM.a21 he, hM.w21 he, Option.bind_some, h6, h7, nI_1]
    cases hc : decide (W 7 e ≠ 0) with
    | true => rw [hc] at hr; exact hr
    | false => rw [hc] at hr; exact hr
  intro e
  induction e with
  | zero =>
    intro v _
    refine ⟨ur_u f (b + 21) 0 (bif decide (W 7 0 ≠ 0) then W 6 0 * v else v), hb.u 6 0 _, eqT_u (by unfold TW; omega), fun r hr => ?_⟩
    refine e_X10_worked_268 _ _ _ _ _ _ ?_
    rw [show decide (nI 0 ≤ (0 : Int32)) = true from by decide, cond_true]
    exact k300 0 v (by decide) r hr
  | succ e ih =>
    intro v he
    have hpe : peW W (e + 1) v = bif decide (W 8 (e + 1) ≠ 1) then (ur_u W 6 (e + 1) (bif decide (W 7 (e + 1) ≠ 0) then W 6 (e + 1) * v else v), e + 1) else peW W e (bif decide (v ≠ 0) then 0 else 1) := by
      unfold peW
      rw [show noW W (e + 1) v = bif decide (W 8 (e + 1) ≠ 1) then (e + 1, v) else noW W e (bif decide (v ≠ 0) then 0 else 1) from rfl]
      cases decide (W 8 (e + 1) ≠ 1) <;> rfl
    have hn : decide (nI (e + 1) ≤ (0 : Int32)) = false := decide_eq_false (nI_nle (by omega) (by omega))
    cases hc : decide (W 8 (e + 1) ≠ 1) with
    | true =>
      rw [hpe, hc, cond_true]
      refine ⟨ur_u f (b + 21) (e + 1) (bif decide (W 7 (e + 1) ≠ 0) then W 6 (e + 1) * v else v), hb.u 6 (e + 1) _, eqT_u (by unfold TW; omega), fun r hr => ?_⟩
      refine e_X10_worked_268 _ _ _ _ _ _ ?_
      simp only [hn, cond_false, hM.r32, hM.a23 he, Option.bind_some, h8, hc, cond_true]
      exact k300 (e + 1) v he r hr
    | false =>
      rw [hpe, hc, cond_false]
      obtain ⟨f', c1, c2, c3⟩ := ih (bif decide (v ≠ 0) then 0 else 1) (by omega)
      refine ⟨f', c1, c2, fun r hr => ?_⟩
      have := c3 r hr
      refine e_X10_worked_268 _ _ _ _ _ _ ?_
      simp only [hn, cond_false, hM.r32, hM.a23 he, Option.bind_some, h8, hc, show nI (e + 1) + (-1 : Int32) = nI e from by rw [← nI_pred e]; exact (Int32.sub_eq_add_neg ..).symm]
      cases hv : decide (v ≠ 0) with
      | true => rw [hv] at this; exact this
      | false => rw [hv] at this; exact this
/-- a value's code, or the end of what was opened -/
theorem t_243 (hM : oModel s R b) (hb : bW f b W) (hk : k < 2 ^ 31) (he : e < 7) {x : (Nat → Nat → Int32) × Nat} (h : vaW W e c v = some x) : ∃ f', bW f' b x.1 ∧ x.2 < 7 ∧ eqT (TW b) f f' ∧ ∀ r, ur_at ur_G (d + 2) 155 (14, [some (.ref b), some (.int 0), some (.int (nI x.2)), some (.int (nI (k + 1))), none, none], [], (s, f', g, R)) = some r → ur_at ur_G (d + 2) 155 (243, [some (.ref b), some (.int 0), some (.int (nI e)), some (.int (nI k)), some (.int c), none], [.int v], (s, f, g, R)) = some r := by
  unfold vaW at h
  cases hc : decide (c ≠ 29) with
  | true =>
    rw [hc, cond_true] at h
    injection h with h
    subst h
    obtain ⟨f', c1, c2, c3⟩ := t_268 (d := d + 2) (g := g) hM hb hk e v he
    refine ⟨f', c1, Nat.lt_of_le_of_lt (noW_le e v) he, c2, fun r hr => e_X10_worked_243 _ _ _ _ _ _ _ ?_⟩
    rw [hc, cond_true]
    exact c3 r hr
  | false =>
    rw [hc, cond_false] at h
    cases e with
    | zero => cases h
    | succ e =>
      have h : some (peW (tW W (e + 1)) e (tW W (e + 1) 0 (e + 1))) = some x := h
      injection h with h
      subst h
      obtain ⟨f1, d1, d2, d3⟩ := t_tests (d := d) (g := g) hM hb he
      obtain ⟨f', c1, c2, c3⟩ := t_268 (d := d + 2) (g := g) hM d2 hk e (tW W (e + 1) 0 (e + 1)) (by omega)
      refine ⟨f', c1, Nat.lt_of_le_of_lt (noW_le e _) (by omega), d3.trans c2, fun r hr => e_X10_worked_243 _ _ _ _ _ _ _ ?_⟩
      have h0 : f1 (b + 15) = tW W (e + 1) 0 := d2 0 (by decide)
      simp only [hc, cond_false, d1, Option.bind_some, hM.r24, hM.a15 he, h0, show nI (e + 1) + (-1 : Int32) = nI e from by rw [← nI_pred e]; exact (Int32.sub_eq_add_neg ..).symm]
      exact c3 r hr
theorem t_46 (hM : oModel s R b) (hb : bW f b W) {x : (Nat → Nat → Int32) × Nat} (h : opW W e c = some x) : ∃ f', bW f' b x.1 ∧ x.2 < 7 ∧ eqT (TW b) f f' ∧ ∀ r, ur_at ur_G (d + 2) 155 (14, [some (.ref b), some (.int 0), some (.int (nI x.2)), some (.int (nI (k + 1))), none, none], [], (s, f', g, R)) = some r → ur_at ur_G (d + 2) 155 (46, [some (.ref b), some (.int 0), some (.int (nI e)), some (.int (nI k)), some (.int c), none], [], (s, f, g, R)) = some r := by
  unfold opW at h
  by_cases he : e < 6
  · rw [decide_eq_true he, cond_true] at h
    injection h with h
    subst h
    have b1 : bW (ur_u f (b + 23) (e + 1) (bif decide (c ≠ 30) then 0 else 1)) b (ur_u W 8 (e + 1) (bif decide (c ≠ 30) then 0 else 1)) := hb.u 8 (e + 1) _
    obtain ⟨f', c1, c2, c3⟩ := t_opens (d := d + 1) (g := g) hM b1 (show e + 1 < 7 by omega)
    refine ⟨f', c2, by omega, (eqT_u (T := TW b) (by unfold TW; omega)).trans c3, fun r hr => e_X10_worked_46 _ _ _ _ _ _ ?_⟩
    simp only [hM.r32, Option.bind_some, nI_1, hM.w23 (show e + 1 < 7 by omega)]
    cases hc : decide (c ≠ 30) with
    | true => rw [hc] at c1; simp only [cond_true] at c1 ⊢; rw [c1]; exact hr
    | false => rw [hc] at c1; simp only [cond_false] at c1 ⊢; rw [c1]; exact hr
  · rw [decide_eq_false he] at h
    cases h
theorem t_137 (hM : oModel s R b) (hb : bW f b W) (he : e < 7) : ∃ f', bW f' b (cpW W e c) ∧ eqT (TW b) f f' ∧ ∀ r, ur_at ur_G (d + 2) 155 (14, [some (.ref b), some (.int 0), some (.int (nI e)), some (.int (nI (k + 1))), none, none], [], (s, f', g, R)) = some r → ur_at ur_G (d + 2) 155 (137, [some (.ref b), some (.int 0), some (.int (nI e)), some (.int (nI k)), some (.int c), none], [], (s, f, g, R)) = some r := by
  obtain ⟨f1, c1, c2, c3⟩ := t_sums (d := d + 1) (g := g) hM hb he
  have h4 : f1 (b + 19) = sW W e 4 := c2 4 (by decide)
  refine ⟨ur_u (ur_u (ur_u (ur_u f1 (b + 17) e (sW W e 4 e)) (b + 18) e c) (b + 19) e 0) (b + 20) e 20, (((c2.u 2 e _).u 3 e c).u 4 e 0).u 5 e 20, (((c3.u (by unfold TW; omega)).u (by unfold TW; omega)).u (by unfold TW; omega)).u (by unfold TW; omega), fun r hr => e_X10_worked_137 _ _ _ _ _ _ ?_⟩
  simp only [c1, hM.r26, hM.r28, hM.a19 he, h4, hM.w17 he, hM.r27, hM.w18 he, hM.w19 he, hM.r29, hM.w20 he, Option.bind_some, nI_1]
  exact hr
theorem t_wstep (hM : oModel s R b) (hb : bW f b W) (hcs : f (b + 12) = cs) (hA : f (b + 24) = A) (hto : f (b + 11) 0 = nI n) (hn : n ≤ 2000) (hk : k < n) (he : e < 7) {x : (Nat → Nat → Int32) × Nat} (h : stW A (cs k) (W, e) = some x) : ∃ f', bW f' b x.1 ∧ x.2 < 7 ∧ eqT (TW b) f f' ∧ ∀ r, ur_at ur_G (d + 2) 155 (14, [some (.ref b), some (.int 0), some (.int (nI x.2)), some (.int (nI (k + 1))), none, none], [], (s, f', g, R)) = some r → ur_at ur_G (d + 2) 155 (14, [some (.ref b), some (.int 0), some (.int (nI e)), some (.int (nI k)), none, none], [], (s, f, g, R)) = some r := by
  have a11 : ur_aI (s, f, g, R) (b + 11) 0 0 = some (f (b + 11) 0) := hM.a11 (show 0 < 2 by decide)
  have head : ∀ r, (bif decide ((cs k) = (28 : Int32)) then ur_at ur_G (d + 2) 155 (46, [some (.ref b), some (.int 0), some (.int (nI e)), some (.int (nI k)), some (.int (cs k)), none], [], (s, f, g, R)) else (bif decide ((cs k) ≠ (30 : Int32)) then (bif decide ((cs k) = (20 : Int32)) then ((ur_call ur_G (d + 2) 153 [.ref b, .int (nI e)] (s, f, g, R)).bind fun q8 => ((ur_fR q8.2 b 10 29).bind fun a9 => ((ur_wI q8.2 a9 0 (nI e) (cs k)).bind fun m10 => ur_at ur_G (d + 2) 155 (14, [some (.ref b), some (.int 0), some (.int (nI e)), some (.int (nI (k + 1))), none, none], [], m10)))) else (bif decide ((cs k) ≠ (21 : Int32)) then (bif decide ((cs k) ≠ (22 : Int32)) then (bif decide ((cs k) = (24 : Int32)) then ur_at ur_G (d + 2) 155 (137, [some (.ref b), some (.int 0), some (.int (nI e)), some (.int (nI k)), some (.int (cs k)), none], [], (s, f, g, R)) else (bif decide ((cs k) ≠ (25 : Int32)) then (bif decide ((cs k) = (26 : Int32)) then ((ur_call ur_G (d + 2) 154 [.ref b, .int (nI e)] (s, f, g, R)).bind fun q11 => ((ur_fR q11.2 b 10 25).bind fun a12 => ((ur_wI q11.2 a12 0 (nI e) (cs k)).bind fun m13 => ur_at ur_G (d + 2) 155 (14, [some (.ref b), some (.int 0), some (.int (nI e)), some (.int (nI (k + 1))), none, none], [], m13)))) else (bif decide ((cs k) ≠ (27 : Int32)) then (bif decide ((cs k) < (100 : Int32)) then (bif decide ((20 : Int32) ≤ (cs k)) then ur_at ur_G (d + 2) 155 (243, [some (.ref b), some (.int 0), some (.int (nI e)), some (.int (nI k)), some (.int (cs k)), none], [.int (0 : Int32)], (s, f, g, R)) else ((ur_fR (s, f, g, R) b 10 33).bind fun a14 => ((ur_aI (s, f, g, R) a14 0 (cs k)).bind fun v15 => ur_at ur_G (d + 2) 155 (243, [some (.ref b), some (.int 0), some (.int (nI e)), some (.int (nI k)), some (.int (cs k)), none], [.int v15], (s, f, g, R))))) else ur_at ur_G (d + 2) 155 (243, [some (.ref b), some (.int 0), some (.int (nI e)), some (.int (nI k)), some (.int (cs k)), none], [.int ((cs k) - (100 : Int32))], (s, f, g, R))) else ((ur_call ur_G (d + 2) 154 [.ref b, .int (nI e)] (s, f, g, R)).bind fun q16 => ((ur_fR q16.2 b 10 25).bind fun a17 => ((ur_wI q16.2 a17 0 (nI e) (cs k)).bind fun m18 => ur_at ur_G (d + 2) 155 (14, [some (.ref b), some (.int 0), some (.int (nI e)), some (.int (nI (k + 1))), none, none], [], m18)))))) else ur_at ur_G (d + 2) 155 (137, [some (.ref b), some (.int 0), some (.int (nI e)), some (.int (nI k)), some (.int (cs k)), none], [], (s, f, g, R)))) else ((ur_fR (s, f, g, R) b 10 31).bind fun a19 => ((ur_wI (s, f, g, R) a19 0 (nI e) (cs k)).bind fun m20 => ur_at ur_G (d + 2) 155 (14, [some (.ref b), some (.int 0), some (.int (nI e)), some (.int (nI (k + 1))), none, none], [], m20)))) else ((ur_call ur_G (d + 2) 153 [.ref b, .int (nI e)] (s, f, g, R)).bind fun q21 => ((ur_fR q21.2 b 10 29).bind fun a22 => ((ur_wI q21.2 a22 0 (nI e) (cs k)).bind fun m23 => ur_at ur_G (d + 2) 155 (14, [some (.ref b), some (.int 0), some (.int (nI e)), some (.int (nI (k + 1))), none, none], [], m23)))))) else ur_at ur_G (d + 2) 155 (46, [some (.ref b), some (.int 0), some (.int (nI e)), some (.int (nI k)), some (.int (cs k)), none], [], (s, f, g, R)))) = some r → ur_at ur_G (d + 2) 155 (14, [some (.ref b), some (.int 0), some (.int (nI e)), some (.int (nI k)), none, none], [], (s, f, g, R)) = some r := by
    intro r hr
    refine e_X10_worked_14 _ _ _ _ _ ?_
    simp only [hM.r19, a11, Option.bind_some, hto, d_le (show n < 2 ^ 31 by omega) (show k < 2 ^ 31 by omega), decide_eq_false (show ¬ n ≤ k by omega), cond_false, hM.r20, hM.a12 (show k < 2000 by omega), hcs, nI_1]
    exact hr
  unfold stW at h
  dsimp only at h
  generalize cs k = c at *
  -- sums, then a sign
  have sg : ∀ w : (Nat → Nat → Int32) × Nat, (ur_u (sW W e) 5 e c, e) = w → (∀ r f1, ur_call ur_G (d + 2) 153 [.ref b, .int (nI e)] (s, f, g, R) = some (0, (s, f1, g, R)) → ur_at ur_G (d + 2) 155 (14, [some (.ref b), some (.int 0), some (.int (nI e)), some (.int (nI (k + 1))), none, none], [], (s, ur_u f1 (b + 20) e c, g, R)) = some r → ur_at ur_G (d + 2) 155 (14, [some (.ref b), some (.int 0), some (.int (nI e)), some (.int (nI k)), none, none], [], (s, f, g, R)) = some r) → ∃ f', bW f' b w.1 ∧ w.2 < 7 ∧ eqT (TW b) f f' ∧ ∀ r, ur_at ur_G (d + 2) 155 (14, [some (.ref b), some (.int 0), some (.int (nI w.2)), some (.int (nI (k + 1))), none, none], [], (s, f', g, R)) = some r → ur_at ur_G (d + 2) 155 (14, [some (.ref b), some (.int 0), some (.int (nI e)), some (.int (nI k)), none, none], [], (s, f, g, R)) = some r := by
    intro w hw hh
    subst hw
    obtain ⟨f1, c1, c2, c3⟩ := t_sums (d := d + 1) (g := g) hM hb he
    exact ⟨ur_u f1 (b + 20) e c, c2.u 5 e c, he, c3.u (by unfold TW; omega), fun r hr => hh r f1 c1 hr⟩
  have tt : ∀ w : (Nat → Nat → Int32) × Nat, (ur_u (tW W e) 1 e c, e) = w → (∀ r f1, ur_call ur_G (d + 2) 154 [.ref b, .int (nI e)] (s, f, g, R) = some (0, (s, f1, g, R)) → ur_at ur_G (d + 2) 155 (14, [some (.ref b), some (.int 0), some (.int (nI e)), some (.int (nI (k + 1))), none, none], [], (s, ur_u f1 (b + 16) e c, g, R)) = some r → ur_at ur_G (d + 2) 155 (14, [some (.ref b), some (.int 0), some (.int (nI e)), some (.int (nI k)), none, none], [], (s, f, g, R)) = some r) → ∃ f', bW f' b w.1 ∧ w.2 < 7 ∧ eqT (TW b) f f' ∧ ∀ r, ur_at ur_G (d + 2) 155 (14, [some (.ref b), some (.int 0), some (.int (nI w.2)), some (.int (nI (k + 1))), none, none], [], (s, f', g, R)) = some r → ur_at ur_G (d + 2) 155 (14, [some (.ref b), some (.int 0), some (.int (nI e)), some (.int (nI k)), none, none], [], (s, f, g, R)) = some r := by
    intro w hw hh
    subst hw
    obtain ⟨f1, c1, c2, c3⟩ := t_tests (d := d) (g := g) hM hb he
    exact ⟨ur_u f1 (b + 16) e c, c2.u 1 e c, he, c3.u (by unfold TW; omega), fun r hr => hh r f1 c1 hr⟩
  have cp : ∀ w : (Nat → Nat → Int32) × Nat, (cpW W e c, e) = w → (∀ r, ur_at ur_G (d + 2) 155 (137, [some (.ref b), some (.int 0), some (.int (nI e)), some (.int (nI k)), some (.int c), none], [], (s, f, g, R)) = some r → ur_at ur_G (d + 2) 155 (14, [some (.ref b), some (.int 0), some (.int (nI e)), some (.int (nI k)), none, none], [], (s, f, g, R)) = some r) → ∃ f', bW f' b w.1 ∧ w.2 < 7 ∧ eqT (TW b) f f' ∧ ∀ r, ur_at ur_G (d + 2) 155 (14, [some (.ref b), some (.int 0), some (.int (nI w.2)), some (.int (nI (k + 1))), none, none], [], (s, f', g, R)) = some r → ur_at ur_G (d + 2) 155 (14, [some (.ref b), some (.int 0), some (.int (nI e)), some (.int (nI k)), none, none], [], (s, f, g, R)) = some r := by
    intro w hw hh
    subst hw
    obtain ⟨f1, c1, c2, c3⟩ := t_137 (d := d) (g := g) (k := k) (c := c) hM hb he
    exact ⟨f1, c1, he, c2, fun r hr => hh r (c3 r hr)⟩
  have va : ∀ v, vaW W e c v = some x → (∀ r, ur_at ur_G (d + 2) 155 (243, [some (.ref b), some (.int 0), some (.int (nI e)), some (.int (nI k)), some (.int c), none], [.int v], (s, f, g, R)) = some r → ur_at ur_G (d + 2) 155 (14, [some (.ref b), some (.int 0), some (.int (nI e)), some (.int (nI k)), none, none], [], (s, f, g, R)) = some r) → ∃ f', bW f' b x.1 ∧ x.2 < 7 ∧ eqT (TW b) f f' ∧ ∀ r, ur_at ur_G (d + 2) 155 (14, [some (.ref b), some (.int 0), some (.int (nI x.2)), some (.int (nI (k + 1))), none, none], [], (s, f', g, R)) = some r → ur_at ur_G (d + 2) 155 (14, [some (.ref b), some (.int 0), some (.int (nI e)), some (.int (nI k)), none, none], [], (s, f, g, R)) = some r := by
    intro v hv hh
    obtain ⟨f1, c1, c2, c3, c4⟩ := t_243 (d := d) (g := g) (k := k) hM hb (by omega) he hv
    exact ⟨f1, c1, c2, c3, fun r hr => hh r (c4 r hr)⟩
  have op : opW W e c = some x → (∀ r, ur_at ur_G (d + 2) 155 (46, [some (.ref b), some (.int 0), some (.int (nI e)), some (.int (nI k)), some (.int c), none], [], (s, f, g, R)) = some r → ur_at ur_G (d + 2) 155 (14, [some (.ref b), some (.int 0), some (.int (nI e)), some (.int (nI k)), none, none], [], (s, f, g, R)) = some r) → ∃ f', bW f' b x.1 ∧ x.2 < 7 ∧ eqT (TW b) f f' ∧ ∀ r, ur_at ur_G (d + 2) 155 (14, [some (.ref b), some (.int 0), some (.int (nI x.2)), some (.int (nI (k + 1))), none, none], [], (s, f', g, R)) = some r → ur_at ur_G (d + 2) 155 (14, [some (.ref b), some (.int 0), some (.int (nI e)), some (.int (nI k)), none, none], [], (s, f, g, R)) = some r := by
    intro hv hh
    obtain ⟨f1, c1, c2, c3, c4⟩ := t_46 (d := d) (g := g) (k := k) hM hb hv
    exact ⟨f1, c1, c2, c3, fun r hr => hh r (c4 r hr)⟩
  cases h28 : decide (c = 28) with
  | true =>
    rw [h28, cond_true] at h
    exact op h (fun r hr => head r (by simp only [h28, cond_true]; exact hr))
  | false =>
  cases h30 : decide (c ≠ 30) with
  | false =>
    rw [h28, h30, cond_false, cond_false] at h
    exact op h (fun r hr => head r (by simp only [h28, h30, cond_false]; exact hr))
  | true =>
  cases h20 : decide (c = 20) with
  | true =>
    rw [h28, h30, h20, cond_false, cond_true, cond_true] at h
    exact sg x (Option.some.inj h) (fun r f1 hc hr => head r (by simp only [h28, h30, h20, cond_false, cond_true, hc, Option.bind_some, hM.r29, hM.w20 he]; exact hr))
  | false =>
  cases h21 : decide (c ≠ 21) with
  | false =>
    rw [h28, h30, h20, h21, cond_false, cond_true, cond_false, cond_false] at h
    exact sg x (Option.some.inj h) (fun r f1 hc hr => head r (by simp only [h28, h30, h20, h21, cond_false, cond_true, hc, Option.bind_some, hM.r29, hM.w20 he]; exact hr))
  | true =>
  cases h22 : decide (c ≠ 22) with
  | false =>
    rw [h28, h30, h20, h21, h22, cond_false, cond_true, cond_false, cond_true, cond_false] at h
    injection h with h
    subst h
    exact ⟨ur_u f (b + 22) e c, hb.u 7 e c, he, eqT_u (by unfold TW; omega), fun r hr => head r (by simp only [h28, h30, h20, h21, h22, cond_false, cond_true, Option.bind_some, hM.r31, hM.w22 he]; exact hr)⟩
  | true =>
  cases h24 : decide (c = 24) with
  | true =>
    simp only [h28, h30, h20, h21, h22, h24, cond_false, cond_true] at h
    exact cp x (Option.some.inj h) (fun r hr => head r (by simp only [h28, h30, h20, h21, h22, h24, cond_false, cond_true]; exact hr))
  | false =>
  cases h25 : decide (c ≠ 25) with
  | false =>
    simp only [h28, h30, h20, h21, h22, h24, h25, cond_false, cond_true] at h
    exact cp x (Option.some.inj h) (fun r hr => head r (by simp only [h28, h30, h20, h21, h22, h24, h25, cond_false, cond_true]; exact hr))
  | true =>
  cases h26 : decide (c = 26) with
  | true =>
    simp only [h28, h30, h20, h21, h22, h24, h25, h26, cond_false, cond_true] at h
    exact tt x (Option.some.inj h) (fun r f1 hc hr => head r (by simp only [h28, h30, h20, h21, h22, h24, h25, h26, cond_false, cond_true, hc, Option.bind_some, hM.r25, hM.w16 he]; exact hr))
  | false =>
  cases h27 : decide (c ≠ 27) with
  | false =>
    simp only [h28, h30, h20, h21, h22, h24, h25, h26, h27, cond_false, cond_true] at h
    exact tt x (Option.some.inj h) (fun r f1 hc hr => head r (by simp only [h28, h30, h20, h21, h22, h24, h25, h26, h27, cond_false, cond_true, hc, Option.bind_some, hM.r25, hM.w16 he]; exact hr))
  | true =>
  cases h100 : decide (c < 100) with
  | false =>
    simp only [h28, h30, h20, h21, h22, h24, h25, h26, h27, h100, cond_false, cond_true] at h
    exact va _ h (fun r hr => head r (by simp only [h28, h30, h20, h21, h22, h24, h25, h26, h27, h100, cond_false, cond_true]; exact hr))
  | true =>
  cases h20' : decide ((20 : Int32) ≤ c) with
  | true =>
    simp only [h28, h30, h20, h21, h22, h24, h25, h26, h27, h100, h20', cond_false, cond_true] at h
    exact va _ h (fun r hr => head r (by simp only [h28, h30, h20, h21, h22, h24, h25, h26, h27, h100, h20', cond_false, cond_true]; exact hr))
  | false =>
  cases h0 : decide (0 ≤ c) with
  | false =>
    simp only [h28, h30, h20, h21, h22, h24, h25, h26, h27, h100, h20', h0, cond_false, cond_true] at h
    cases h
  | true =>
    simp only [h28, h30, h20, h21, h22, h24, h25, h26, h27, h100, h20', h0, cond_false, cond_true] at h
    have hc0 : ¬ c < 0 := Int32.not_lt.mpr (of_decide_eq_true h0)
    obtain ⟨q, hq, rfl⟩ := nI_of hc0
    have hq20 : q < 20 := by
      have := of_decide_eq_false h20'
      apply Nat.lt_of_not_le
      intro z
      exact this (nI_le (a := 20) z hq)
    rw [ix_nI hq] at h
    exact va _ h (fun r hr => head r (by simp only [h28, h30, h20, h21, h22, h24, h25, h26, h27, h100, h20', cond_false, cond_true, hM.r33, Option.bind_some, hM.a24 hq20, hA]; exact hr))
theorem t_worked (hM : oModel s R b) (hb : bW f b W) (hcs : f (b + 12) = cs) (hA : f (b + 24) = A) (hfr : f (b + 10) 0 = nI k) (hto : f (b + 11) 0 = nI (k + n)) (hn : k + n ≤ 2000) (h : wkM cs A k n W = some v) : ∃ f', ur_call ur_G (d + 3) 155 [.ref b, .int 0] (s, f, g, R) = some (v, (s, f', g, R)) ∧ eqT (TW b) f f' := by
  have run : ∀ (n' k' : Nat) (f1 W1 : Nat → Nat → Int32) (e : Nat), k' + n' = k + n → bW f1 b W1 → eqT (TW b) f f1 → e < 7 → ∀ x, wkR cs A n' k' (W1, e) = some x → ∃ f', ur_at ur_G (d + 2) 155 (14, [some (.ref b), some (.int 0), some (.int (nI e)), some (.int (nI k')), none, none], [], (s, f1, g, R)) = some (tW x.1 0 0 0, (s, f', g, R)) ∧ eqT (TW b) f f' := by
    intro n'
    induction n' with
    | zero =>
      intro k' f1 W1 e hk' hb1 ht1 he x hx
      injection hx with hx
      subst hx
      obtain ⟨f2, c1, c2, c3⟩ := t_tests (d := d) (g := g) hM hb1 (show 0 < 7 by decide)
      refine ⟨f2, e_X10_worked_14 _ _ _ _ _ ?_, ht1.trans c3⟩
      have a11 : ur_aI (s, f1, g, R) (b + 11) 0 0 = some (f1 (b + 11) 0) := hM.a11 (show 0 < 2 by decide)
      have e11 : f1 (b + 11) 0 = nI (k + n) := by rw [ht1.row (fun k => by unfold TW; omega), hto]
      have h0 : f2 (b + 15) = tW W1 0 0 := c2 0 (by decide)
      have a15 : ur_aI (s, f2, g, R) (b + 15) 0 0 = some (f2 (b + 15) 0) := hM.a15 (show 0 < 7 by decide)
      have c1' : ur_call ur_G (d + 2) 154 [.ref b, .int (0 : Int32)] (s, f1, g, R) = some (0, (s, f2, g, R)) := c1
      simp only [hM.r19, a11, Option.bind_some, e11, d_le (show k + n < 2 ^ 31 by omega) (show k' < 2 ^ 31 by omega), decide_eq_true (show k + n ≤ k' by omega), cond_true, c1', hM.r24, a15, h0]
    | succ n' ih =>
      intro k' f1 W1 e hk' hb1 ht1 he x hx
      have hx : (stW A (cs k') (W1, e)).bind (wkR cs A n' (k' + 1)) = some x := hx
      obtain ⟨y, hy, hx⟩ := Option.bind_eq_some_iff.mp hx
      obtain ⟨f2, c1, c2, c3, c4⟩ := t_wstep (d := d) (g := g) (n := k + n) (k := k') hM hb1 (by rw [ht1.row (fun k => by unfold TW; omega), hcs]) (by rw [ht1.row (fun k => by unfold TW; omega), hA]) (by rw [ht1.row (fun k => by unfold TW; omega), hto]) hn (by omega) he hy
      obtain ⟨f3, d1, d2⟩ := ih (k' + 1) f2 y.1 y.2 (by omega) c1 (ht1.trans c3) c2 x hx
      exact ⟨f3, c4 _ d1, d2⟩
  unfold wkM at h
  obtain ⟨x, hx, hv⟩ := Option.bind_eq_some_iff.mp h
  injection hv with hv
  obtain ⟨f1, c1, c2, c3⟩ := t_opens (d := d + 1) (g := g) hM hb (show 0 < 7 by decide)
  have c1' : ur_call ur_G (d + 2) 152 [.ref b, .int (0 : Int32)] (s, f, g, R) = some (0, (s, f1, g, R)) := c1
  obtain ⟨f2, d1, d2⟩ := run n k f1 (oW W 0) 0 rfl c2 c3 (by decide) x hx
  refine ⟨f2, ur_cl hM.rcv rfl (e_X10_worked_0 _ _ _ ?_), d2⟩
  have a10 : ur_aI (s, f1, g, R) (b + 10) 0 0 = some (f1 (b + 10) 0) := hM.a10 (show 0 < 2 by decide)
  have e10 : f1 (b + 10) 0 = nI k := by rw [c3.row (fun k => by unfold TW; omega), hfr]
  simp only [c1', Option.bind_some, hM.r18, a10, e10]
  rw [← hv]
  exact d1
end URW

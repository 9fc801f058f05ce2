/-! LEAVES of the readers, on both sides -/
def eqL (T : Nat → Nat → Prop) (g g' : Nat → Nat → Int64) : Prop := ∀ a k, ¬ T a k → g' a k = g a k
theorem eqL.refl {T : Nat → Nat → Prop} {g : Nat → Nat → Int64} : eqL T g g := fun _ _ _ => rfl
theorem eqL.trans {T : Nat → Nat → Prop} {g g' g'' : Nat → Nat → Int64} (h : eqL T g g') (h' : eqL T g' g'') : eqL T g g'' := fun a k z => (h' a k z).trans (h a k z)
theorem eqL.mono {T T' : Nat → Nat → Prop} {g g' : Nat → Nat → Int64} (h : eqL T g g') (hT : ∀ a k, T a k → T' a k) : eqL T' g g' := fun a k z => h a k (fun y => z (hT a k y))
theorem eqL_u {T : Nat → Nat → Prop} {g : Nat → Nat → Int64} {a k : Nat} {v : Int64} (h : T a k) : eqL T g (ur_u g a k v) := fun b j z => by
  unfold ur_u
  by_cases h1 : b = a
  · rw [if_pos h1]
    by_cases h2 : j = k
    · exact absurd (by rw [h1, h2]; exact h) z
    · rw [if_neg h2, h1]
  · rw [if_neg h1]
theorem eqL.u {T : Nat → Nat → Prop} {g g' : Nat → Nat → Int64} {a k : Nat} {v : Int64} (h : eqL T g g') (hT : T a k) : eqL T g (ur_u g' a k v) := h.trans (eqL_u hT)
def cS (f : Nat → Nat → Int32) (g : Nat → Nat → Int64) (q : Nat × (Nat → Nat)) (i : Nat) : Prop := tpX f q ∧ (i ≤ q.1 ∧ f 1 7 = 0) ∧ cT f g q i
def mS (f : Nat → Nat → Int32) (g : Nat → Nat → Int64) (q : Nat × (Nat → Nat)) (i : Nat) : Prop := tpM f q ∧ i ≤ q.1 ∧ mT f g q i
def TF1 : Nat → Nat → Prop := fun a k => a = 1 ∧ 2 ≤ k ∧ k ≤ 7
def GF1 : Nat → Nat → Prop := fun a k => a = 1 ∧ k = 5
def TF2 : Nat → Nat → Prop := fun a k => a = 208 ∧ 4 ≤ k ∧ k ≤ 9
def GF2 : Nat → Nat → Prop := fun a k => a = 208 ∧ k = 7
section URLV
variable {s : List (Nat ⊕ (Nat × Nat))} {f f' f1 f2 : Nat → Nat → Int32} {g g' : Nat → Nat → Int64} {R : Nat → Nat → Option Nat} {d b j n k a i e c lo hi : Nat} {q : Nat × (Nat → Nat)} {T : Nat → Nat → Prop} {x : Int64}
theorem kd_cases (b : Nat) (q : Nat × (Nat → Nat)) (hc : ∀ k, k < q.1 → q.2 k < 128) : (kdB q b = 1 ∧ q.1 ≤ b) ∨ (b < q.1 ∧ (kdB q b = 3 ∨ (100 ≤ kdB q b ∧ kdB q b < 120))) ∨ (b < q.1 ∧ kdB q b = 0) ∨ (b < q.1 ∧ kdB q b = 2 ∧ isLt (q.2 b) = false ∧ isDg (q.2 b) = true ∧ ruE q isDg b - b ≤ 4) ∨ (b < q.1 ∧ kdB q b = q.2 b ∧ 40 ≤ q.2 b ∧ q.2 b ≤ 61) := by
  by_cases h1 : q.1 ≤ b
  · exact Or.inl ⟨kdB_1.mpr h1, h1⟩
  · refine Or.inr ?_
    have hb : b < q.1 := by omega
    unfold kdB
    rw [decide_eq_false h1, cond_false]
    cases hL : isLt (q.2 b) with
    | true =>
      simp only [cond_true]
      by_cases h8 : ruE q isLt b - b ≤ 8
      · rw [decide_eq_true h8, cond_true]
        exact Or.inl ⟨hb, kwK_v _⟩
      · rw [decide_eq_false h8, cond_false]
        exact Or.inr (Or.inl ⟨hb, rfl⟩)
    | false =>
      simp only [cond_false]
      cases hD : isDg (q.2 b) with
      | true =>
        simp only [cond_true]
        by_cases h4 : ruE q isDg b - b ≤ 4
        · rw [decide_eq_true h4, cond_true]
          exact Or.inr (Or.inr (Or.inl ⟨hb, rfl, trivial, trivial, h4⟩))
        · rw [decide_eq_false h4, cond_false]
          exact Or.inr (Or.inl ⟨hb, rfl⟩)
      | false =>
        simp only [cond_false]
        cases hs : sgC (q.2 b) with
        | true =>
          rw [cond_true]
          refine Or.inr (Or.inr (Or.inr ⟨hb, rfl, ?_⟩))
          unfold sgC at hs
          simp only [Bool.or_eq_true, Bool.and_eq_true, decide_eq_true_eq] at hs
          omega
        | false =>
          rw [cond_false]
          exact Or.inr (Or.inl ⟨hb, rfl⟩)
theorem kdT_lt (hc : ∀ k, k < q.1 → q.2 k < 128) : kdT q i < 120 := by
  have := kd_cases (bgT q i) q hc
  unfold kdT
  omega
theorem nmD_lt : ∀ (k : Nat), (∀ j, j < k → isDg (q.2 (b + j)) = true) → nmD q b k < 10 ^ k
  | 0, _ => by show 0 < 1; decide
  | k + 1, h => by
    have h1 := nmD_lt k (fun j hj => h j (by omega))
    have h2 := h k (by omega)
    unfold isDg at h2
    rw [Bool.and_eq_true, decide_eq_true_eq, decide_eq_true_eq] at h2
    show nmD q b k * 10 + (q.2 (b + k) - 48) < 10 ^ (k + 1)
    rw [Nat.pow_succ]
    omega
theorem nm_lt (hc : ∀ k, k < q.1 → q.2 k < 128) (hi : i ≤ q.1) (h : kdT q i = 2) : nmT q i < 10000 := by
  have hb := bgT_le hi
  unfold kdT at h
  rcases kd_cases (bgT q i) q hc with z | z | z | ⟨z1, z2, zL, z3, z4⟩ | z
  · omega
  · omega
  · omega
  · have en : enT q i = ruE q isDg (bgT q i) := by
      unfold enT enB
      rw [decide_eq_false (by omega), cond_false, zL, z3]
      rfl
    unfold nmT
    rw [en]
    have h1 := nmD_lt (q := q) (b := bgT q i) (ruE q isDg (bgT q i) - bgT q i) (fun j hj => (ruE_of hb.2).2.2.1 _ (by omega) (by omega))
    have h2 : 10 ^ (ruE q isDg (bgT q i) - bgT q i) ≤ 10 ^ 4 := Nat.pow_le_pow_right (by decide) z4
    have h3 : (10 : Nat) ^ 4 = 10000 := by decide
    omega
  · omega
-- the class
theorem cS.sm (h : cS f g q i) : ∀ k, k < q.1 → q.2 k < 128 := h.1.2
theorem cS.le (h : cS f g q i) : i ≤ q.1 := h.2.1.1
theorem cS.f7 (h : cS f g q i) : f 1 7 = 0 := h.2.1.2
theorem cS.kd (h : cS f g q i) : f 1 4 = nI (kdT q i) := h.2.2.2.2.1
theorem cS.kl (h : cS f g q i) : kdT q i < 120 := kdT_lt h.sm
theorem cS.bg (h : cS f g q i) : f 1 3 = nI (bgT q i) := h.2.2.2.1
theorem cS.bl (h : cS f g q i) : bgT q i ≤ 1000 := by have := (bgT_le h.le).2; have := h.1.le; omega
theorem cS.w (h : cS f g q i) (hw : isW (kdT q i)) : g 1 5 = lN (wN 32 (wlT q i)) := h.2.2.2.2.2.1 hw
theorem cS.nu (h : cS f g q i) (hn : kdT q i = 2) : f 1 6 = nI (nmT q i) := h.2.2.2.2.2.2 hn
theorem cS.fr {T' : Nat → Nat → Prop} (h : cS f g q i) (t : eqT T f f') (t' : eqL T' g g') (h1 : ∀ k, 1 ≤ k → k ≤ 7 → ¬ T 1 k) (h2 : ∀ k, ¬ T 2 k) (h3 : ¬ T' 1 5) : cS f' g' q i := by
  obtain ⟨a1, ⟨a2, a3⟩, b1, b2, b3, b4, b5⟩ := h
  refine ⟨a1.fr t ⟨h1 1 (by decide) (by decide), h2⟩, ⟨a2, by rw [t _ _ (h1 7 (by decide) (by decide)), a3]⟩, by rw [t _ _ (h1 2 (by decide) (by decide)), b1], by rw [t _ _ (h1 3 (by decide) (by decide)), b2], by rw [t _ _ (h1 4 (by decide) (by decide)), b3], fun z => by rw [t' _ _ h3, b4 z], fun z => by rw [t _ _ (h1 6 (by decide) (by decide)), b5 z]⟩
theorem x_adv (hO : oTape s R 1) (hS : s.length ≤ 1000) (h : cS f g q i) : ∃ f' g', ur_call ur_G (d + 8) 74 [.ref 1] (s, f, g, R) = some (0, (s, f', g', R)) ∧ cS f' g' q (enT q i) ∧ eqT TF1 f f' ∧ eqL GF1 g g' := by
  obtain ⟨f1, w, c1, c2, c3⟩ := x_advance (d := d) (g := g) hO hS h.1 (tk_next h.le).1 h.2.2.1
  exact ⟨f1, ur_u g 1 5 w, c1, ⟨h.1.fr c3 TAx_d, ⟨(tk_next h.le).1, by rw [c3 _ _ (by unfold TAx; omega)]; exact h.f7⟩, c2⟩, c3.mono (fun a k z => by unfold TAx at z; unfold TF1; omega), eqL_u ⟨rfl, rfl⟩⟩
theorem x_fl (hO : oTape s R 1) (h : cS f g q i) {v : Int32} (hv : v = nI k) : ur_call ur_G (d + 1) 77 [.ref 1, .int v] (s, f, g, R) = some (0, (s, ur_u f 1 7 (nI (k + 16 * bgT q i)), g, R)) := by
  refine ur_cl hO.rcv rfl (e_X8_fail_0 _ _ _ ?_)
  simp only [hO.I, hO.pI, Option.bind_some, h.bg]
  rw [hv, show (16 : Int32) = nI 16 from rfl, pk_mul, nI_add]
theorem x_take_y (hO : oTape s R 1) (hS : s.length ≤ 1000) (h : cS f g q i) {v : Int32} (hv : v = nI c) (hk : kdT q i = c) : ∃ f' g', ur_call ur_G (d + 9) 78 [.ref 1, .int v] (s, f, g, R) = some (1, (s, f', g', R)) ∧ cS f' g' q (enT q i) ∧ eqT TF1 f f' ∧ eqL GF1 g g' := by
  obtain ⟨f1, g1, c1, c2, c3, c4⟩ := x_adv (d := d) hO hS h
  refine ⟨f1, g1, ur_cl hO.rcv rfl (e_X8_take_0 _ _ _ ?_), c2, c3, c4⟩
  simp only [hO.I, Option.bind_some, h.kd, hk, hv, decide_true, cond_true, c1]
theorem x_take_n (hO : oTape s R 1) (h : cS f g q i) {v : Int32} (hv : v = nI c) (hc : c < 2 ^ 31) (hk : kdT q i ≠ c) : ur_call ur_G (d + 9) 78 [.ref 1, .int v] (s, f, g, R) = some (0, (s, ur_u f 1 7 (nI (1 + 16 * bgT q i)), g, R)) := by
  have hl := h.kl
  have c1 := x_fl (d := d + 7) hO h (k := 1) (v := 1) rfl
  refine ur_cl hO.rcv rfl (e_X8_take_0 _ _ _ ?_)
  simp only [hO.I, Option.bind_some, h.kd, hv, d_eq (show kdT q i < 2 ^ 31 by omega) hc, decide_eq_false hk, cond_false, c1]
  rfl
theorem x_isNum_k (hO : oTape s R 1) (h : cS f g q i) {v v' : Int32} (hk : kdT q i ≠ 2) : ur_call ur_G (d + 2) 79 [.ref 1, .int v, .int v'] (s, f, g, R) = some (0, (s, ur_u f 1 7 (nI (1 + 16 * bgT q i)), g, R)) := by
  have hl := h.kl
  have c1 := x_fl (d := d) hO h (k := 1) (v := 1) rfl
  refine ur_cl hO.rcv rfl (e_X8_isNumber_0 _ _ _ _ ?_)
  simp only [hO.I, Option.bind_some, h.kd, show decide (nI (kdT q i) = (2 : Int32)) = decide (kdT q i = 2) from d_eq (b := 2) (by omega) (by decide), decide_eq_false hk, cond_false, c1]
  rfl
theorem x_isNum (hO : oTape s R 1) (h : cS f g q i) {v v' : Int32} (hv : v = nI lo) (hv' : v' = nI hi) (hlo : lo < 2 ^ 31) (hhi : hi < 2 ^ 31) (hk : kdT q i = 2) : ur_call ur_G (d + 2) 79 [.ref 1, .int v, .int v'] (s, f, g, R) = bif decide (lo ≤ nmT q i) && decide (nmT q i ≤ hi) then some (1, (s, f, g, R)) else some (0, (s, ur_u f 1 7 (nI (4 + 16 * bgT q i)), g, R)) := by
  have hn := nm_lt h.sm h.le hk
  have c1 := x_fl (d := d) hO h (k := 4) (v := 4) rfl
  have en := h.nu hk
  by_cases h1 : lo ≤ nmT q i
  · by_cases h2 : nmT q i ≤ hi
    · rw [decide_eq_true h1, decide_eq_true h2]
      refine ur_cl hO.rcv rfl (e_X8_isNumber_0 _ _ _ _ ?_)
      simp only [hO.I, Option.bind_some, h.kd, hk, show decide (nI 2 = (2 : Int32)) = true from by decide, cond_true, en, hv, hv', d_lt (show nmT q i < 2 ^ 31 by omega) hlo, decide_eq_false (show ¬ nmT q i < lo by omega), cond_false, d_le (show nmT q i < 2 ^ 31 by omega) hhi, decide_eq_true h2]
    · rw [decide_eq_true h1, decide_eq_false h2]
      refine ur_cl hO.rcv rfl (e_X8_isNumber_0 _ _ _ _ ?_)
      simp only [hO.I, Option.bind_some, h.kd, hk, show decide (nI 2 = (2 : Int32)) = true from by decide, cond_true, en, hv, hv', d_lt (show nmT q i < 2 ^ 31 by omega) hlo, decide_eq_false (show ¬ nmT q i < lo by omega), cond_false, d_le (show nmT q i < 2 ^ 31 by omega) hhi, decide_eq_false h2, c1]
      rfl
  · rw [decide_eq_false h1]
    refine ur_cl hO.rcv rfl (e_X8_isNumber_0 _ _ _ _ ?_)
    simp only [hO.I, Option.bind_some, h.kd, hk, show decide (nI 2 = (2 : Int32)) = true from by decide, cond_true, en, hv, hv', d_lt (show nmT q i < 2 ^ 31 by omega) hlo, decide_eq_true (show nmT q i < lo by omega), c1]
    rfl
-- the reference
theorem mS.sm (h : mS f g q i) : ∀ k, k < q.1 → q.2 k < 128 := h.1.2.2.2
theorem mS.le (h : mS f g q i) : i ≤ q.1 := h.2.1
theorem mS.kl (h : mS f g q i) : kdT q i < 120 := kdT_lt h.sm
theorem mS.tk (h : mS f g q i) : f 208 6 = nI (tkM (kdT q i)) := h.2.2.2.2.1
theorem mS.bg (h : mS f g q i) : f 208 5 = nI (bgT q i) := h.2.2.2.1
theorem mS.w (h : mS f g q i) (hw : isW (kdT q i)) : g 208 7 = lN (wN 27 (wlT q i)) := h.2.2.2.2.2.1 hw
theorem mS.nu (h : mS f g q i) (hn : kdT q i = 2) : f 208 8 = nI (nmT q i) := h.2.2.2.2.2.2 hn
theorem mS.fr {T' : Nat → Nat → Prop} (h : mS f g q i) (t : eqT T f f') (t' : eqL T' g g') (h1 : ∀ k, 3 ≤ k → k ≤ 8 → ¬ T 208 k) (h2 : ∀ k, ¬ T 209 k) (h3 : ¬ T' 208 7) : mS f' g' q i := by
  obtain ⟨a1, a2, b1, b2, b3, b4, b5⟩ := h
  refine ⟨a1.fr t ⟨h1 3 (by decide) (by decide), h2⟩, a2, by rw [t _ _ (h1 4 (by decide) (by decide)), b1], by rw [t _ _ (h1 5 (by decide) (by decide)), b2], by rw [t _ _ (h1 6 (by decide) (by decide)), b3], fun z => by rw [t' _ _ h3, b4 z], fun z => by rw [t _ _ (h1 8 (by decide) (by decide)), b5 z]⟩
theorem m_nx (hM : oModel s R 208) (h : mS f g q i) : ∃ f' g', ur_call ur_G (d + 2) 145 [.ref 208] (s, f, g, R) = some (0, (s, f', g', R)) ∧ mS f' g' q (enT q i) ∧ eqT TF2 f f' ∧ eqL GF2 g g' := by
  obtain ⟨f1, w, c1, c2, c3⟩ := m_next (d := d) (g := g) hM h.1 (tk_next h.le).1 h.2.2.1
  exact ⟨f1, ur_u g 208 7 w, c1, ⟨h.1.fr c3 TBx_d, (tk_next h.le).1, c2⟩, c3.mono (fun a k z => by unfold TBx at z; unfold TF2; omega), eqL_u ⟨rfl, rfl⟩⟩
theorem m_fl (hM : oModel s R 208) (h : mS f g q i) {v : Int32} (hv : v = nI k) : ur_call ur_G (d + 1) 148 [.ref 208, .int v] (s, f, g, R) = some (0, (s, ur_u f 208 9 (nI (k + 16 * bgT q i)), g, R)) := by
  refine ur_cl hM.rcv rfl (e_X10_fails_0 _ _ _ ?_)
  simp only [hM.I, hM.pI, Option.bind_some, h.bg]
  rw [hv, show (16 : Int32) = nI 16 from rfl, pk_mul, nI_add]
theorem tk_W {k : Nat} (h : isW k) : tkM k = 1 := by
  unfold isW at h
  unfold tkM
  rw [decide_eq_false (by omega), cond_false, decide_eq_false (by omega), cond_false, decide_eq_false (by omega), cond_false]
  rcases h with h | h
  · rw [decide_eq_true h]; rfl
  · rw [decide_eq_true h, Bool.or_true]; rfl
theorem tk_nW {k : Nat} (h : ¬ isW k) : tkM k = (bif decide (k = 1) then 0 else bif decide (k = 2) then 2 else bif decide (k = 0) then 4 else 3) := by
  unfold isW at h
  unfold tkM
  rw [decide_eq_false (show ¬ k = 3 by omega), decide_eq_false (show ¬ 100 ≤ k by omega)]
  rfl
theorem tk_ne {k : Nat} (h : ¬ isW k) : tkM k ≠ 1 ∧ tkM k ≤ 4 := by
  rw [tk_nW h]
  cases decide (k = 1) <;> cases decide (k = 2) <;> cases decide (k = 0) <;> decide
theorem isW_d {k : Nat} : isW k ∨ ¬ isW k := Classical.em _
theorem m_isWord (hM : oModel s R 208) (h : mS f g q i) (hk : k < 20) (hx : x = lN (wN 27 (kwl.getD k []))) : ur_call ur_G (d + 1) 146 [.ref 208, .long x] (s, f, g, R) = some (ur_b (decide (kdT q i = 100 + k)), (s, f, g, R)) := by
  refine ur_cl hM.rcv rfl (e_X10_isWord_0 _ _ _ ?_)
  rcases isW_d (k := kdT q i) with hw | hw
  · obtain ⟨w1, w2, -⟩ := tk_w h.le hw
    simp only [hM.I, hM.L, Option.bind_some, h.tk, tk_W hw, show decide (nI 1 ≠ (1 : Int32)) = false from by decide, cond_false, h.w hw, lg_0, w27 hk hx w1, ← w2]
    cases decide (kdT q i = 100 + k) <;> rfl
  · have := tk_ne hw
    rw [decide_eq_false (show ¬ kdT q i = 100 + k from fun z => hw (by rw [z]; unfold isW; omega))]
    simp only [hM.I, Option.bind_some, h.tk, decide_eq_true (show nI (tkM (kdT q i)) ≠ (1 : Int32) from fun z => this.1 ((nI_eq (b := 1) (by omega) (by decide)).mp z)), cond_true]
    rfl
theorem m_isSign (hM : oModel s R 208) (h : mS f g q i) {v : Int32} (hv : v = nI c) (h40 : 40 ≤ c) (h61 : c ≤ 61) : ur_call ur_G (d + 1) 147 [.ref 208, .int v] (s, f, g, R) = some (ur_b (decide (kdT q i = c)), (s, f, g, R)) := by
  have hle := h.1.2.1
  refine ur_cl hM.rcv rfl (e_X10_isSign_0 _ _ _ ?_)
  have go : tkM (kdT q i) ≠ 3 → tkM (kdT q i) ≤ 4 → kdT q i ≠ c → ((ur_fI (s, f, g, R) 208 10 6).bind fun v1 => (bif decide (v1 ≠ (3 : Int32)) then some ((0 : Int32), (s, f, g, R)) else ((ur_fR (s, f, g, R) 208 10 2).bind fun a2 => ((ur_fI (s, f, g, R) 208 10 5).bind fun v3 => ((ur_aI (s, f, g, R) a2 0 v3).bind fun v4 => (bif decide (v4 ≠ v) then some ((0 : Int32), (s, f, g, R)) else some ((1 : Int32), (s, f, g, R)))))))) = some (ur_b (decide (kdT q i = c)), (s, f, g, R)) := fun z1 z2 z3 => by
    simp only [hM.I, Option.bind_some, h.tk, decide_eq_true (show nI (tkM (kdT q i)) ≠ (3 : Int32) from fun z => z1 ((nI_eq (b := 3) (by omega) (by decide)).mp z)), cond_true, decide_eq_false z3]
    rfl
  have hkk : kdT q i = kdB q (bgT q i) := rfl
  rcases kd_cases (bgT q i) q h.sm with ⟨z1, z2⟩ | ⟨z1, z2⟩ | ⟨z1, z2⟩ | ⟨z1, z2, z3⟩ | ⟨z1, z2, z3, z4⟩
  · exact go (by rw [hkk, z1]; decide) (by rw [hkk, z1]; decide) (by omega)
  · have hw : isW (kdT q i) := by unfold isW; omega
    exact go (by rw [tk_W hw]; decide) (by rw [tk_W hw]; decide) (by omega)
  · exact go (by rw [hkk, z2]; decide) (by rw [hkk, z2]; decide) (by omega)
  · exact go (by rw [hkk, z2]; decide) (by rw [hkk, z2]; decide) (by omega)
  · have hw : ¬ isW (kdT q i) := by unfold isW; omega
    have e3 : tkM (kdT q i) = 3 := by
      rw [tk_nW hw, decide_eq_false (by omega), decide_eq_false (by omega), decide_eq_false (by omega)]
      rfl
    have a1 := hM.a1 (f := f) (g := g) (show bgT q i < 1000 by omega)
    simp only [hM.I, Option.bind_some, h.tk, e3, show decide (nI 3 ≠ (3 : Int32)) = false from by decide, cond_false, hM.r2, h.bg, a1, h.1.at z1]
    rw [hkk, z2, hv]
    by_cases e : q.2 (bgT q i) = c
    · rw [e, decide_eq_false (fun z => z rfl), decide_eq_true rfl]; rfl
    · rw [decide_eq_true (show nI (q.2 (bgT q i)) ≠ nI c from fun z => e ((nI_eq (by omega) (by omega)).mp z)), decide_eq_false e]; rfl
theorem m_isKept (hM : oModel s R 208) (h : mS f g q i) : ur_call ur_G (d + 1) 156 [.ref 208] (s, f, g, R) = some (ur_b (!decide (kdT q i = 3)), (s, f, g, R)) := by
  refine ur_cl hM.rcv rfl (e_X10_isKept_0 _ _ ?_)
  rcases isW_d (k := kdT q i) with hw | hw
  · obtain ⟨w1, w2, -⟩ := tk_w h.le hw
    have k0 := w27 (k := 0) (x := 365647) (by decide) (by decide +kernel) w1
    have k1 := w27 (k := 1) (x := 309142174) (by decide) (by decide +kernel) w1
    have k2 := w27 (k := 2) (x := 4555648) (by decide) (by decide +kernel) w1
    have k3 := w27 (k := 3) (x := 90090) (by decide) (by decide +kernel) w1
    have k4 := w27 (k := 4) (x := 232608281) (by decide) (by decide +kernel) w1
    have k5 := w27 (k := 5) (x := 923) (by decide) (by decide +kernel) w1
    have k6 := w27 (k := 6) (x := 257) (by decide) (by decide +kernel) w1
    have k7 := w27 (k := 7) (x := 10492462) (by decide) (by decide +kernel) w1
    have k8 := w27 (k := 8) (x := 453773) (by decide) (by decide +kernel) w1
    have k9 := w27 (k := 9) (x := 380237) (by decide) (by decide +kernel) w1
    have k10 := w27 (k := 10) (x := 10415990) (by decide) (by decide +kernel) w1
    have k11 := w27 (k := 11) (x := 55175) (by decide) (by decide +kernel) w1
    have k12 := w27 (k := 12) (x := 191610176) (by decide) (by decide +kernel) w1
    have k13 := w27 (k := 13) (x := 4137608) (by decide) (by decide +kernel) w1
    have k14 := w27 (k := 14) (x := 459437) (by decide) (by decide +kernel) w1
    have k15 := w27 (k := 15) (x := 1758676) (by decide) (by decide +kernel) w1
    have k16 := w27 (k := 16) (x := 287991491) (by decide) (by decide +kernel) w1
    have k17 := w27 (k := 17) (x := 10631) (by decide) (by decide +kernel) w1
    have k18 := w27 (k := 18) (x := 1111) (by decide) (by decide +kernel) w1
    have k19 := w27 (k := 19) (x := 423) (by decide) (by decide +kernel) w1
    rw [← w2] at k0 k1 k2 k3 k4 k5 k6 k7 k8 k9 k10 k11 k12 k13 k14 k15 k16 k17 k18 k19
    simp only [hM.I, hM.L, Option.bind_some, h.tk, tk_W hw, show decide (nI 1 = (1 : Int32)) = true from by decide, cond_true, h.w hw, lg_0, lg_z, k0, k1, k2, k3, k4, k5, k6, k7, k8, k9, k10, k11, k12, k13, k14, k15, k16, k17, k18, k19]
    have hv : kdT q i = 3 ∨ ∃ k, k < 20 ∧ kdT q i = 100 + k := by
      have := h.kl
      unfold isW at hw
      rcases hw with z | z
      · exact Or.inl z
      · exact Or.inr ⟨kdT q i - 100, by omega, by omega⟩
    rcases hv with z | ⟨k, hk, z⟩
    · rw [z]; rfl
    · rw [z, decide_eq_false (show ¬ 100 + k = 3 by omega)]
      clear z hw w1 w2 k0 k1 k2 k3 k4 k5 k6 k7 k8 k9 k10 k11 k12 k13 k14 k15 k16 k17 k18 k19 h
      match k, hk with
      | 0, _ => rfl
      | 1, _ => rfl
      | 2, _ => rfl
      | 3, _ => rfl
      | 4, _ => rfl
      | 5, _ => rfl
      | 6, _ => rfl
      | 7, _ => rfl
      | 8, _ => rfl
      | 9, _ => rfl
      | 10, _ => rfl
      | 11, _ => rfl
      | 12, _ => rfl
      | 13, _ => rfl
      | 14, _ => rfl
      | 15, _ => rfl
      | 16, _ => rfl
      | 17, _ => rfl
      | 18, _ => rfl
      | 19, _ => rfl
      | k + 20, hk => exact absurd hk (by omega)
  · have := tk_ne hw
    rw [decide_eq_false (show ¬ kdT q i = 3 from fun z => hw (Or.inl z))]
    simp only [hM.I, Option.bind_some, h.tk, decide_eq_false (show ¬ nI (tkM (kdT q i)) = (1 : Int32) from fun z => this.1 ((nI_eq (b := 1) (by omega) (by decide)).mp z)), cond_false]
    rfl
def fcM (q : Nat × (Nat → Nat)) (i : Nat) : Nat := bif decide (kdT q i = 3) && decide (fcK (wlT q i) < 4) then fcK (wlT q i) + 1 else 0
theorem m_fact (hM : oModel s R 208) (h : mS f g q i) : ur_call ur_G (d + 1) 150 [.ref 208] (s, f, g, R) = some (nI (fcM q i), (s, f, g, R)) := by
  refine ur_cl hM.rcv rfl (e_X10_fact_0 _ _ ?_)
  rcases isW_d (k := kdT q i) with hw | hw
  · obtain ⟨w1, w2, -⟩ := tk_w h.le hw
    have k0 := f27 (k := 0) (x := 271277) (by decide) (by decide +kernel) w1
    have k1 := f27 (k := 1) (x := 10815598) (by decide) (by decide +kernel) w1
    have k2 := f27 (k := 2) (x := 13385674) (by decide) (by decide +kernel) w1
    have k3 := f27 (k := 3) (x := 286624) (by decide) (by decide +kernel) w1
    simp only [hM.I, hM.L, Option.bind_some, h.tk, tk_W hw, show decide (nI 1 = (1 : Int32)) = true from by decide, cond_true, h.w hw, lg_0, k0, k1, k2, k3]
    unfold fcM
    by_cases h4 : fcK (wlT q i) < 4
    · have e3 : kdT q i = 3 := by rw [w2]; exact fc_kw h4
      rw [decide_eq_true e3, decide_eq_true h4]
      generalize fcK (wlT q i) = z at h4
      match z, h4 with
      | 0, _ => rfl
      | 1, _ => rfl
      | 2, _ => rfl
      | 3, _ => rfl
    · rw [decide_eq_false h4, Bool.and_false, decide_eq_false (show ¬ fcK (wlT q i) = 0 by omega), decide_eq_false (show ¬ fcK (wlT q i) = 1 by omega), decide_eq_false (show ¬ fcK (wlT q i) = 2 by omega), decide_eq_false (show ¬ fcK (wlT q i) = 3 by omega)]
      rfl
  · have := tk_ne hw
    unfold fcM
    rw [decide_eq_false (show ¬ kdT q i = 3 from fun z => hw (Or.inl z))]
    simp only [hM.I, Option.bind_some, h.tk, decide_eq_false (show ¬ nI (tkM (kdT q i)) = (1 : Int32) from fun z => this.1 ((nI_eq (b := 1) (by omega) (by decide)).mp z)), cond_false]
    rfl
end URLV

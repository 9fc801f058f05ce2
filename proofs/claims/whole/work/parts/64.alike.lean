/-! how many keep one alike; alike, on both sides -/
theorem cnB_it (x : Int32) : ∀ n, itr (fun j (a : Int32) => a + ur_b (bt x j)) n 0 = nI (cN x n)
  | 0 => rfl
  | n + 1 => by
    show itr (fun j (a : Int32) => a + ur_b (bt x j)) n 0 + ur_b (bt x n) = nI (cN x n + (bif bt x n then 1 else 0))
    rw [cnB_it x n]
    cases bt x n with
    | true => exact nI_1 _
    | false => exact Int32.add_zero _
theorem cnB_cN (x : Int32) : cnB x = nI (cN x 8) := cnB_it x 8
theorem cN_top {x : Int32} {N : Nat} : ∀ n, N ≤ n → (∀ i, N ≤ i → i < n → bt x i = false) → cN x n = cN x N
  | 0, h, _ => by rw [show N = 0 by omega]
  | n + 1, h, hz => by
    by_cases e : N = n + 1
    · rw [e]
    · show cN x n + (bif bt x n then 1 else 0) = cN x N
      rw [hz n (by omega) (by omega), cN_top n (by omega) (fun i h1 h2 => hz i h1 (by omega))]
      rfl
theorem mx_nI {a b : Nat} (ha : a < 2 ^ 31) (hb : b < 2 ^ 31) : ur_mx (nI a) (nI b) = nI (max a b) := by
  unfold ur_mx
  by_cases h : a < b
  · rw [if_pos (nI_lt h hb), Nat.max_eq_right (by omega)]
  · rw [if_neg (nI_nlt (by omega) ha), Nat.max_eq_left (by omega)]
def mkS (st : Nat → Nat) (X : Int32) (j : Nat) (x : (Nat → Nat) × Nat) : (Nat → Nat) × Nat := bif bt X j then (fun v => if v = st j then x.1 v + 1 else x.1 v, max x.2 (x.1 (st j) + 1)) else x
def mkA (st : Nat → Nat) (X : Int32) (n : Nat) : (Nat → Nat) × Nat := itr (mkS st X) n (fun _ => 0, 0)
def ctN (st : Nat → Nat) (X : Int32) (v : Nat) : Nat → Nat
  | 0 => 0
  | n + 1 => ctN st X v n + (bif bt X n && decide (st n = v) then 1 else 0)
section URMA
variable {st : Nat → Nat} {X : Int32} {v n : Nat}
theorem mkA_t (h : bt X n = true) : mkA st X (n + 1) = (fun v => if v = st n then (mkA st X n).1 v + 1 else (mkA st X n).1 v, max (mkA st X n).2 ((mkA st X n).1 (st n) + 1)) := by
  show mkS st X n (mkA st X n) = _
  unfold mkS
  rw [h]
  rfl
theorem mkA_f (h : bt X n = false) : mkA st X (n + 1) = mkA st X n := by
  show mkS st X n (mkA st X n) = _
  unfold mkS
  rw [h]
  rfl
theorem ct_s : ctN st X v (n + 1) = ctN st X v n + (bif bt X n && decide (st n = v) then 1 else 0) := rfl
theorem mkA_ct : ∀ (n v : Nat), (mkA st X n).1 v = ctN st X v n
  | 0, _ => rfl
  | n + 1, v => by
    rw [ct_s]
    cases h : bt X n with
    | false => rw [mkA_f h, mkA_ct n v]; rfl
    | true =>
      rw [mkA_t h]
      show (if v = st n then (mkA st X n).1 v + 1 else (mkA st X n).1 v) = _
      rw [mkA_ct n v]
      by_cases e : v = st n
      · rw [if_pos e, decide_eq_true e.symm]; rfl
      · rw [if_neg e, decide_eq_false (fun q => e q.symm)]; rfl
theorem mkA_ub : ∀ (n v : Nat), ctN st X v n ≤ (mkA st X n).2
  | 0, _ => Nat.le_refl 0
  | n + 1, v => by
    have ih := mkA_ub n v
    rw [ct_s]
    cases h : bt X n with
    | false => rw [mkA_f h]; exact ih
    | true =>
      rw [mkA_t h]
      show ctN st X v n + (bif true && decide (st n = v) then 1 else 0) ≤ max (mkA st X n).2 ((mkA st X n).1 (st n) + 1)
      rw [mkA_ct]
      by_cases e : st n = v
      · rw [e, decide_eq_true rfl]; exact Nat.le_max_right _ _
      · rw [decide_eq_false e]; exact Nat.le_trans ih (Nat.le_max_left _ _)
theorem mkA_at : ∀ (n : Nat), ∃ v, (mkA st X n).2 = ctN st X v n
  | 0 => ⟨0, rfl⟩
  | n + 1 => by
    obtain ⟨v, hv⟩ := mkA_at n
    cases h : bt X n with
    | false => refine ⟨v, ?_⟩; rw [mkA_f h, ct_s, h, hv]; rfl
    | true =>
      rw [mkA_t h]
      show ∃ v, max (mkA st X n).2 ((mkA st X n).1 (st n) + 1) = _
      rw [mkA_ct]
      rcases Nat.lt_or_ge (ctN st X (st n) n) (mkA st X n).2 with q | q
      · refine ⟨v, ?_⟩
        rw [Nat.max_eq_left (by omega), ct_s, h, decide_eq_false (fun e => by rw [e] at q; omega), hv]
        rfl
      · refine ⟨st n, ?_⟩
        rw [Nat.max_eq_right (by omega), ct_s, h, decide_eq_true rfl]
        rfl
theorem ct_le : ∀ (n : Nat), ctN st X v n ≤ cN X n
  | 0 => Nat.le_refl 0
  | n + 1 => by
    have ih := ct_le n
    show ctN st X v n + (bif bt X n && decide (st n = v) then 1 else 0) ≤ cN X n + (bif bt X n then 1 else 0)
    cases bt X n <;> cases decide (st n = v) <;> simp <;> omega
theorem ct_all : ∀ (n : Nat), (∀ j, j < n → bt X j = true → st j = v) → ctN st X v n = cN X n
  | 0, _ => rfl
  | n + 1, h => by
    show ctN st X v n + (bif bt X n && decide (st n = v) then 1 else 0) = cN X n + (bif bt X n then 1 else 0)
    rw [ct_all n (fun j hj => h j (by omega))]
    cases hb : bt X n with
    | false => rfl
    | true => rw [decide_eq_true (h n (by omega) hb)]; rfl
theorem ct_eq : ∀ (n : Nat), cN X n ≤ ctN st X v n → ∀ j, j < n → bt X j = true → st j = v
  | 0, _, j, hj, _ => absurd hj (by omega)
  | n + 1, h, j, hj, hb => by
    have hle := ct_le (st := st) (X := X) (v := v) n
    have h' : cN X n + (bif bt X n then 1 else 0) ≤ ctN st X v n + (bif bt X n && decide (st n = v) then 1 else 0) := h
    by_cases e : j = n
    · subst e
      rw [hb] at h'
      by_cases q : st j = v
      · exact q
      · rw [decide_eq_false q] at h'
        simp at h'
        omega
    · refine ct_eq n ?_ j (by omega) hb
      revert h'
      cases bt X n <;> cases decide (st n = v) <;> simp <;> omega
theorem mkA_le (n : Nat) : (mkA st X n).2 ≤ n := by
  obtain ⟨v, hv⟩ := mkA_at (st := st) (X := X) n
  have h1 := ct_le (st := st) (X := X) (v := v) n
  have h2 := cN_le X n
  omega
theorem mk_iff : cN X n ≤ (mkA st X n).2 ↔ ∃ v, ∀ j, j < n → bt X j = true → st j = v := by
  constructor
  · intro h
    obtain ⟨v, hv⟩ := mkA_at (st := st) (X := X) n
    exact ⟨v, ct_eq n (by omega)⟩
  · rintro ⟨v, hv⟩
    rw [← ct_all n hv]
    exact mkA_ub n v
end URMA
/-- how long one would be kept, as a number -/
def syN (E : Int32 → Int32 → Int32 → Int32 → Int32) (l V : Nat → Nat → Int32) (p j : Nat) : Nat := ix (syV E l V p j (V 0 7))
theorem sy_is {E : Int32 → Int32 → Int32 → Int32 → Int32} {l V : Nat → Nat → Int32} {p j : Nat} : syV E l V p j (V 0 7) = nI (syN E l V p j) ∧ 1 ≤ syN E l V p j ∧ syN E l V p j ≤ 30 := by
  obtain ⟨m, m1, m2, m3⟩ := cl30_is (E (l 2 j) (V 4 p) (l 6 p) (V 0 7))
  have e : syV E l V p j (V 0 7) = nI m := m3
  have e2 : syN E l V p j = m := by unfold syN; rw [e, ix_nI (by omega)]
  rw [e2, e]
  exact ⟨rfl, m1, m2⟩
theorem fsB_is {x : Int32} : ∀ n j, (∃ i, j ≤ i ∧ i < j + n ∧ bt x i = true) → ∃ q, j ≤ q ∧ q < j + n ∧ fsB x n j = nI q ∧ bt x q = true
  | 0, j, h => by obtain ⟨i, h1, h2, _⟩ := h; omega
  | n + 1, j, h => by
    obtain ⟨i, h1, h2, h3⟩ := h
    cases hb : bt x j with
    | true => exact ⟨j, Nat.le_refl _, by omega, by show (bif bt x j then nI j else fsB x n (j + 1)) = nI j; rw [hb]; rfl, hb⟩
    | false =>
      have hne : i ≠ j := fun e => by rw [e, hb] at h3; cases h3
      obtain ⟨q, q1, q2, q3, q4⟩ := fsB_is n (j + 1) ⟨i, by omega, by omega, h3⟩
      exact ⟨q, by omega, by omega, by show (bif bt x j then nI j else fsB x n (j + 1)) = nI q; rw [hb]; exact q3, q4⟩
section URAK
variable {s : List (Nat ⊕ (Nat × Nat))} {f f' f1 f2 l V V' : Nat → Nat → Int32} {g : Nat → Nat → Int64} {R : Nat → Nat → Option Nat} {L L' K K' d b j p P N w n k a i z m o : Nat} {x y c e X : Int32} {E : Int32 → Int32 → Int32 → Int32 → Int32}
theorem x_most (hX : oX s R L L' K K') (hc : cX s R f 33 L l V N P) (hE : lwX l E) (hp : p < P) : ∃ f', ur_call ur_G (d + 6) 121 [.ref 0, .int (nI p), .int X] (s, f, g, R) = some (nI (mkA (syN E l V p) X N).2, (s, f', g, R)) ∧ cX s R f' 33 L l V N P ∧ eqT SX f f' := by
  have hL := hX.eL
  have h8 := hc.r8
  obtain ⟨f0, a1, a2, a3⟩ := t_fill (d := d + 4) (f := f) (g := g) (R := R) (v := 0) hX.keep (by decide)
  have t0 : eqT SX f f0 := a3.mono (fun a k z => by unfold SX; omega)
  have c0 : cX s R f0 33 L l V N P := hc.fr a3 (hc.bn.fr a3 (fun i k hi z => by omega)) (fun a k h1 h2 z => by omega)
  have main := lp (n := N) (Fn := fun j (f' : Nat → Nat → Int32) => ur_at ur_G (d + 5) 121 (13, [some (.ref 0), some (.int (nI p)), some (.int X), some (.int (nI (mkA (syN E l V p) X j).2)), some (.int (nI j)), none], [], (s, f', g, R)))
    (I := fun j f' => cX s R f' 33 L l V N P ∧ (∀ v, v < 31 → f' 55 v = nI ((mkA (syN E l V p) X j).1 v)) ∧ eqT SX f f')
    (Q := fun r => r.1 = nI (mkA (syN E l V p) X N).2 ∧ ∃ f', r.2 = (s, f', g, R) ∧ cX s R f' 33 L l V N P ∧ eqT SX f f') ?_ ?_ f0 ⟨c0, a2, t0⟩
  · obtain ⟨⟨v', q⟩, e1, e2, f', e3, e4, e5⟩ := main
    dsimp only at e2 e3
    subst e2 e3
    refine ⟨f', ur_cl hX.rcv rfl (e_X9_mostKeptAlike_0 _ _ _ _ ?_), e4, e5⟩
    simp only [hX.r14, Option.bind_some, a1]
    exact e1
  · intro j f1 hj ⟨i1, i2, i3⟩
    have hmle := mkA_le (st := syN E l V p) (X := X) j
    cases hb : bt X j with
    | false =>
      refine ⟨f1, ⟨i1, by rw [mkA_f hb]; exact i2, i3⟩, fun r hr => e_X9_mostKeptAlike_13 _ _ _ _ _ _ ?_⟩
      rw [mkA_f hb] at hr
      simp only [hX.r1, Option.bind_some, i1.oL.I, i1.er, d_le (show N < 2 ^ 31 by omega) (show j < 2 ^ 31 by omega), decide_eq_false (show ¬ N ≤ j by omega), cond_false, s_bit X (show j < 32 by omega), hb, ub_n1, Bool.not_false, cond_true, nI_1]
      exact hr
    | true =>
      obtain ⟨f2, c1, c2⟩ := c_stayOf (d := d + 1) (g := g) (r := V 0 7) i1 hE hp hj
      obtain ⟨e1, e2, e3⟩ := sy_is (E := E) (l := l) (V := V) (p := p) (j := j)
      rw [e1] at c1
      have hcle : (mkA (syN E l V p) X j).1 (syN E l V p j) ≤ 8 := by
        rw [mkA_ct]
        have h1 := ct_le (st := syN E l V p) (X := X) (v := syN E l V p j) j
        have h2 := cN_le X j
        omega
      have r55 : ∀ v, f2 55 v = f1 55 v := fun v => c2 55 v (fun z => by unfold TL at z; omega)
      have t : eqT (fun a k => TL L a k ∨ a = 55) f1 (ur_u f2 55 (syN E l V p j) (nI ((mkA (syN E l V p) X j).1 (syN E l V p j) + 1))) := (c2.mono (fun a k z => Or.inl z)).u (Or.inr rfl)
      refine ⟨ur_u f2 55 (syN E l V p j) (nI ((mkA (syN E l V p) X j).1 (syN E l V p j) + 1)), ⟨i1.fr t (i1.bn.fr t (fun i k hi z => by unfold TL at z; omega)) (fun a k h1 h2 z => ?_), fun v hv => ?_, i3.trans (t.mono (fun a k z => ?_))⟩, fun r hr => e_X9_mostKeptAlike_13 _ _ _ _ _ _ ?_⟩
      · rcases z with z | z
        · exact z
        · omega
      · rw [mkA_t hb]
        show _ = nI (if v = syN E l V p j then _ else _)
        by_cases q : v = syN E l V p j
        · rw [if_pos q, q, ur_us]
        · rw [if_neg q, ur_un q, r55, i2 v hv]
      · rcases z with z | z
        · exact TL_SX hL a k z
        · unfold SX; omega
      · rw [mkA_t hb] at hr
        have w1 : ∀ f' v, ur_wI (s, f', g, R) 55 0 (nI (syN E l V p j)) v = some (s, ur_u f' 55 (syN E l V p j) v, g, R) := fun f' v => vwI hX.keep (by omega) (by decide)
        have r1 : ∀ f', ur_aI (s, f', g, R) 55 0 (nI (syN E l V p j)) = some (f' 55 (syN E l V p j)) := fun f' => vaI hX.keep (by omega) (by decide)
        simp only [hX.r1, Option.bind_some, i1.oL.I, i1.er, d_le (show N < 2 ^ 31 by omega) (show j < 2 ^ 31 by omega), decide_eq_false (show ¬ N ≤ j by omega), cond_false, s_bit X (show j < 32 by omega), hb, ub_n1, Bool.not_true, hX.r5, hX.now.I, i1.f0, c1, hX.r14, r1, r55, i2 _ (show syN E l V p j < 31 by omega), nI_1, w1, ur_us, mx_nI (show (mkA (syN E l V p) X j).2 < 2 ^ 31 by omega) (show (mkA (syN E l V p) X j).1 (syN E l V p j) + 1 < 2 ^ 31 by omega)]
        exact hr
  · intro f1 ⟨i1, i2, i3⟩
    refine ⟨(nI (mkA (syN E l V p) X N).2, (s, f1, g, R)), e_X9_mostKeptAlike_13 _ _ _ _ _ _ ?_, rfl, f1, rfl, i1, i3⟩
    simp only [hX.r1, Option.bind_some, i1.oL.I, i1.er, d_le (show N < 2 ^ 31 by omega) (show N < 2 ^ 31 by omega), Nat.le_refl, decide_true, cond_true]
/-- one is kept alike in all -/
def akP (E : Int32 → Int32 → Int32 → Int32 → Int32) (l V : Nat → Nat → Int32) (N p : Nat) : Prop := ∃ v, ∀ j, j < N → bt (l 0 9) j = true → syN E l V p j = v
theorem x_alike (hX : oX s R L L' K K') (hc : cX s R f 33 L l V N P) (hE : lwX l E) (hU : ∀ i, N ≤ i → i < 32 → bt (l 0 9) i = false) (h1 : (∀ p, p < P → akP E l V N p) → x = 1) (h0 : (∃ p, p < P ∧ ¬ akP E l V N p) → x = 0) : ∃ f', ur_call ur_G (d + 8) 120 [.ref 0] (s, f, g, R) = some (x, (s, f', g, R)) ∧ eqT SX f f' := by
  have h8 := hc.r8
  have h5 := hc.p5
  have sm : sm8 (l 0 9) := fun i q1 q2 => hU i (by omega) q2
  have ec : bc32 (l 0 9) = nI (cN (l 0 9) N) := by rw [bc_sm sm, cnB_cN, cN_top 8 h8 (fun i q1 q2 => hU i q1 (by omega))]
  have key : ∀ (n k : Nat) (f1 : Nat → Nat → Int32), n + k = P → (∀ p, p < k → akP E l V N p) → cX s R f1 33 L l V N P → eqT SX f f1 → ∃ f', ur_at ur_G (d + 7) 120 (2, [some (.ref 0), some (.int (nI k))], [], (s, f1, g, R)) = some (x, (s, f', g, R)) ∧ eqT SX f f' := by
    intro n
    induction n with
    | zero =>
      intro k f1 hk hall i1 i3
      have : k = P := by omega
      subst this
      refine ⟨f1, e_X9_alike_2 _ _ _ ?_, i3⟩
      simp only [hX.r1, Option.bind_some, i1.oL.I, i1.ep, d_le (show k < 2 ^ 31 by omega) (show k < 2 ^ 31 by omega), Nat.le_refl, decide_true, cond_true]
      rw [h1 hall]
    | succ n ih =>
      intro k f1 hk hall i1 i3
      obtain ⟨f2, a1, a2, a3⟩ := x_most (d := d + 1) (g := g) (X := l 0 9) hX i1 hE (show k < P by omega)
      have l1 := mkA_le (st := syN E l V k) (X := l 0 9) N
      have l2 := cN_le (l 0 9) N
      by_cases hq : akP E l V N k
      · obtain ⟨f3, b1, b2⟩ := ih (k + 1) f2 (by omega) (fun p hp => by
          by_cases e : p = k
          · rw [e]; exact hq
          · exact hall p (by omega)) a2 (i3.trans a3)
        refine ⟨f3, e_X9_alike_2 _ _ _ ?_, b2⟩
        simp only [hX.r1, Option.bind_some, i1.oL.I, i1.ep, i1.l0, d_le (show P < 2 ^ 31 by omega) (show k < 2 ^ 31 by omega), decide_eq_false (show ¬ P ≤ k by omega), cond_false, a1, a2.l0, u_bc, ec, d_le (show cN (l 0 9) N < 2 ^ 31 by omega) (show (mkA (syN E l V k) (l 0 9) N).2 < 2 ^ 31 by omega), decide_eq_true (mk_iff.mpr hq), cond_true, nI_1]
        exact b1
      · refine ⟨f2, e_X9_alike_2 _ _ _ ?_, i3.trans a3⟩
        simp only [hX.r1, Option.bind_some, i1.oL.I, i1.ep, i1.l0, d_le (show P < 2 ^ 31 by omega) (show k < 2 ^ 31 by omega), decide_eq_false (show ¬ P ≤ k by omega), cond_false, a1, a2.l0, u_bc, ec, d_le (show cN (l 0 9) N < 2 ^ 31 by omega) (show (mkA (syN E l V k) (l 0 9) N).2 < 2 ^ 31 by omega), decide_eq_false (fun z => hq (mk_iff.mp z))]
        rw [h0 ⟨k, by omega, hq⟩]
  obtain ⟨f1, a1, a2⟩ := key P 0 f rfl (fun p hp => absurd hp (by omega)) hc eqT.refl
  exact ⟨f1, ur_cl hX.rcv rfl (e_X9_alike_0 _ _ a1), a2⟩
theorem m_alike (h : cM s R f b l V N P E) (h1 : (∀ p, p < P → akP E l V N p) → x = 1) (h0 : (∃ p, p < P ∧ ¬ akP E l V N p) → x = 0) : ∃ f', ur_call ur_G (d + 6) 237 [.ref b] (s, f, g, R) = some (x, (s, f', g, R)) ∧ eqT (SR b) f f' := by
  have hM := h.oM
  have h8 := h.r8
  have h5 := h.p5
  have t0 := m_thr h
  have hU := h.hl.2.2.2.1
  have a0 : ∀ f', ur_aI (s, f', g, R) (b + 2) 0 0 = some (f' (b + 2) 0) := fun f' => hM.a2 (show 0 < 6 by decide)
  have a2 : ∀ f', ur_aI (s, f', g, R) (b + 2) 0 2 = some (f' (b + 2) 2) := fun f' => hM.a2 (show 2 < 6 by decide)
  have a1 : ∀ f', ur_aI (s, f', g, R) (b + 33) 0 1 = some (f' (b + 33) 1) := fun f' => hM.a33 (show 1 < 29 by decide)
  -- all rooms from r on
  have key : ∀ (n r : Nat) (f1 : Nat → Nat → Int32), n + r = N → (∀ r' p q, r' < r → p < P → bt (l 0 9) r' = true → fsB (l 0 9) 8 0 = nI q → q < N → syN E l V p r' = syN E l V p q) → cM s R f1 b l V N P E → eqT (SR b) f f1 → ∃ f', ur_at ur_G (d + 5) 237 (15, [some (.ref b), some (.int (fsB (l 0 9) 8 0)), some (.int (nI r)), none], [], (s, f1, g, R)) = some (x, (s, f', g, R)) ∧ eqT (SR b) f f' := by
    intro n
    induction n with
    | zero =>
      intro r f1 hr hall i1 i3
      have : r = N := by omega
      subst this
      refine ⟨f1, e_X10_alike_15 _ _ _ _ ?_, i3⟩
      simp only [hM.r10, Option.bind_some, a0, i1.er, d_le (show r < 2 ^ 31 by omega) (show r < 2 ^ 31 by omega), Nat.le_refl, decide_true, cond_true]
      rw [h1 (fun p hp => ?_)]
      by_cases hz : ∃ i, 0 ≤ i ∧ i < 0 + 8 ∧ bt (l 0 9) i = true
      · obtain ⟨q, q1, q2, q3, q4⟩ := fsB_is 8 0 hz
        have hqN : q < r := by
          rcases Nat.lt_or_ge q r with z | z
          · exact z
          · rw [hU q z (by omega)] at q4; cases q4
        exact ⟨syN E l V p q, fun j hj hb => hall j p q hj hp hb q3 hqN⟩
      · exact ⟨0, fun j hj hb => absurd ⟨j, by omega, by omega, hb⟩ hz⟩
    | succ n ih =>
      intro r f1 hr hall i1 i3
      -- all persons from k on
      have inn : ∀ (e k : Nat) (f1 : Nat → Nat → Int32), e + k = P → (∀ p q, p < k → bt (l 0 9) r = true → fsB (l 0 9) 8 0 = nI q → q < N → syN E l V p r = syN E l V p q) → cM s R f1 b l V N P E → eqT (SR b) f f1 → ∃ f', ur_at ur_G (d + 5) 237 (27, [some (.ref b), some (.int (fsB (l 0 9) 8 0)), some (.int (nI r)), some (.int (nI k))], [], (s, f1, g, R)) = some (x, (s, f', g, R)) ∧ eqT (SR b) f f' := by
        intro e
        induction e with
        | zero =>
          intro k f1 hk hp2 j1 j3
          have : k = P := by omega
          subst this
          obtain ⟨f2, b1, b2⟩ := ih (r + 1) f1 (by omega) (fun r' p q q1 q2 q3 q4 q5 => by
            by_cases e : r' = r
            · subst e; exact hp2 p q q2 q3 q4 q5
            · exact hall r' p q (by omega) q2 q3 q4 q5) j1 j3
          refine ⟨f2, e_X10_alike_27 _ _ _ _ _ ?_, b2⟩
          simp only [hM.r10, Option.bind_some, a2, j1.ep, d_le (show k < 2 ^ 31 by omega) (show k < 2 ^ 31 by omega), Nat.le_refl, decide_true, cond_true, nI_1]
          exact b1
        | succ e ih2 =>
          intro k f1 hk hp2 j1 j3
          have hh := (j1.hl.2.2.1 r (by omega))
          have hdec : decide (f1 (b + 4) r ≤ 0) = !bt (l 0 9) r := by rw [hh.1, hh.2.2, Bool.not_not]
          cases hb : bt (l 0 9) r with
          | false =>
            obtain ⟨f2, b1, b2⟩ := ih2 (k + 1) f1 (by omega) (fun p q q1 q2 => by rw [hb] at q2; cases q2) j1 j3
            refine ⟨f2, e_X10_alike_27 _ _ _ _ _ ?_, b2⟩
            rw [hb] at hdec
            simp only [hM.r10, Option.bind_some, a2, j1.ep, d_le (show P < 2 ^ 31 by omega) (show k < 2 ^ 31 by omega), decide_eq_false (show ¬ P ≤ k by omega), cond_false, hM.r12, hM.a4 (show r < 16 by omega), hdec, Bool.not_false, cond_true, nI_1]
            exact b1
          | true =>
            obtain ⟨q, q1, q2, q3, q4⟩ := fsB_is (x := l 0 9) 8 0 ⟨r, by omega, by omega, hb⟩
            have hqN : q < N := by
              rcases Nat.lt_or_ge q N with z | z
              · exact z
              · rw [hU q z (by omega)] at q4; cases q4
            obtain ⟨f2, c1, c2, c3⟩ := m_stayOf (d := d + 1) (g := g) (r := V 0 7) j1 (show k < P by omega) (show r < N by omega)
            obtain ⟨f3, d1, d2, d3⟩ := m_stayOf (d := d + 1) (g := g) (r := V 0 7) c2 (show k < P by omega) hqN
            obtain ⟨e1, e2, e3⟩ := sy_is (E := E) (l := l) (V := V) (p := k) (j := r)
            obtain ⟨g1, g2, g3⟩ := sy_is (E := E) (l := l) (V := V) (p := k) (j := q)
            rw [e1] at c1
            rw [g1] at d1
            have t3 : eqT (SR b) f f3 := (j3.trans (c3.mono (fun a k z => by unfold TV at z; unfold SR; omega))).trans (d3.mono (fun a k z => by unfold TV at z; unfold SR; omega))
            rw [hb] at hdec
            have head : ∀ r0, (bif decide (nI (syN E l V k r) = nI (syN E l V k q)) then ur_at ur_G (d + 5) 237 (27, [some (.ref b), some (.int (fsB (l 0 9) 8 0)), some (.int (nI r)), some (.int (nI (k + 1)))], [], (s, f3, g, R)) else some ((0 : Int32), (s, f3, g, R))) = some r0 → ur_at ur_G (d + 5) 237 (27, [some (.ref b), some (.int (fsB (l 0 9) 8 0)), some (.int (nI r)), some (.int (nI k))], [], (s, f1, g, R)) = some r0 := fun r0 h0 => by
              refine e_X10_alike_27 _ _ _ _ _ ?_
              simp only [hM.r10, Option.bind_some, a2, j1.ep, d_le (show P < 2 ^ 31 by omega) (show k < 2 ^ 31 by omega), decide_eq_false (show ¬ P ≤ k by omega), cond_false, hM.r12, hM.a4 (show r < 16 by omega), hdec, Bool.not_true, nI_1, hM.r44, a1, j1.hn.1.2.1, c1, c2.hn.1.2.1, q3, d1]
              rw [q3] at h0
              exact h0
            by_cases hs : syN E l V k r = syN E l V k q
            · obtain ⟨f4, b1, b2⟩ := ih2 (k + 1) f3 (by omega) (fun p q' z1 z2 z3 z4 => by
                by_cases e : p = k
                · have : q' = q := (nI_eq (by omega) (by omega)).mp (z3.symm.trans q3)
                  rw [e, this]; exact hs
                · exact hp2 p q' (by omega) z2 z3 z4) d2 t3
              refine ⟨f4, head _ ?_, b2⟩
              rw [decide_eq_true (show nI (syN E l V k r) = nI (syN E l V k q) by rw [hs]), cond_true]
              exact b1
            · refine ⟨f3, head _ ?_, t3⟩
              rw [d_eq (by omega) (by omega), decide_eq_false hs, cond_false, h0 ⟨k, by omega, fun ⟨v, hv⟩ => hs ((hv r (by omega) hb).trans (hv q hqN q4).symm)⟩]
      obtain ⟨f2, b1, b2⟩ := inn P 0 f1 rfl (fun p q hp => absurd hp (by omega)) i1 i3
      refine ⟨f2, e_X10_alike_15 _ _ _ _ ?_, b2⟩
      simp only [hM.r10, Option.bind_some, a0, i1.er, d_le (show N < 2 ^ 31 by omega) (show r < 2 ^ 31 by omega), decide_eq_false (show ¬ N ≤ r by omega), cond_false]
      exact b1
  obtain ⟨f1, b1, b2⟩ := key N 0 (ur_u f b 0 0) rfl (fun r' p q hp => absurd hp (by omega)) t0 (eqT_u SR_0)
  refine ⟨f1, ur_cl hM.rcv rfl (e_X10_alike_0 _ _ ?_), b2⟩
  simp only [hM.pI, Option.bind_some, t_unsaids hM t0.er h8, r_uns t0.hl, t_firstOf]
  exact b1
theorem j_alike (h : JV s R f g L L' K K' l V N P E) : JQ s R f g (d + 60) 120 237 [] := by
  have go : ∀ x : Int32, ((∀ p, p < P → akP E l V N p) → x = 1) → ((∃ p, p < P ∧ ¬ akP E l V N p) → x = 0) → JQ s R f g (d + 60) 120 237 [] := fun x h1 h0 => by
    obtain ⟨f1, c1, c2⟩ := x_alike (d := d + 52) (g := g) h.oX h.cX h.lw h.cM.hl.2.2.2.1 h1 h0
    obtain ⟨f2, d1, d2⟩ := m_alike (d := d + 54) (g := g) (h.cM.sx c2) h1 h0
    exact ⟨x, f1, f2, c1, d1, QX_x c2 d2⟩
  by_cases hA : ∀ p, p < P → akP E l V N p
  · exact go 1 (fun _ => rfl) (fun ⟨p, hp, hn⟩ => absurd (hA p hp) hn)
  · exact go 0 (fun z => absurd z hA) (fun _ => rfl)
end URAK

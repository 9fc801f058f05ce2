/-! chance, on both sides -/
def chP (c : Nat → Bool) (o t : Nat) (k : Nat) : Nat × Bool := itr (fun k x => (x.1 * (bif t.testBit k then o else 10 - o), x.2 || (t.testBit k && c k))) k (1, false)
def chS (c : Nat → Bool) (o m n : Nat) : Nat := itr (fun t a => bif (chP c o t m).2 then a + (chP c o t m).1 else a) n 0
def chX (c : Nat → Bool) (o k : Nat) : Nat := itr (fun k a => bif c k then a / 10 * (10 - o) else a) k 1000000
def c6 (c0 c1 c2 c3 c4 c5 : Bool) (k : Nat) : Bool := match k with
  | 0 => c0
  | 1 => c1
  | 2 => c2
  | 3 => c3
  | 4 => c4
  | 5 => c5
  | _ => false
set_option maxRecDepth 100000 in
theorem ch_all : ∀ c0 c1 c2 c3 c4 c5 : Bool, ∀ m, m < 7 → ∀ o, o < 11 → chS (c6 c0 c1 c2 c3 c4 c5) o m (2 ^ m) ≤ 1000000 ∧ chS (c6 c0 c1 c2 c3 c4 c5) o m (2 ^ m) * 1000000 / 10 ^ m = 1000000 - chX (c6 c0 c1 c2 c3 c4 c5) o m := by decide +kernel
theorem itr_cg {σ : Type} {s1 s2 : Nat → σ → σ} : ∀ (n : Nat) (x : σ), (∀ k y, k < n → s1 k y = s2 k y) → itr s1 n x = itr s2 n x
  | 0, _, _ => rfl
  | n + 1, x, h => by
    show s1 n (itr s1 n x) = s2 n (itr s2 n x)
    rw [itr_cg n x (fun k y hk => h k y (by omega)), h n _ (by omega)]
theorem c6_eq (c : Nat → Bool) : ∀ k, k < 6 → c k = c6 (c 0) (c 1) (c 2) (c 3) (c 4) (c 5) k
  | 0, _ => rfl
  | 1, _ => rfl
  | 2, _ => rfl
  | 3, _ => rfl
  | 4, _ => rfl
  | 5, _ => rfl
  | k + 6, h => absurd h (by omega)
theorem ch_eq (c : Nat → Bool) {m o : Nat} (hm : m < 7) (ho : o < 11) : chS c o m (2 ^ m) ≤ 1000000 ∧ chS c o m (2 ^ m) * 1000000 / 10 ^ m = 1000000 - chX c o m := by
  have e1 : ∀ t, chP c o t m = chP (c6 (c 0) (c 1) (c 2) (c 3) (c 4) (c 5)) o t m := fun t => itr_cg m _ (fun k y hk => by rw [c6_eq c k (by omega)])
  have e2 : chS c o m (2 ^ m) = chS (c6 (c 0) (c 1) (c 2) (c 3) (c 4) (c 5)) o m (2 ^ m) := itr_cg _ _ (fun k y hk => by rw [e1])
  have e3 : chX c o m = chX (c6 (c 0) (c 1) (c 2) (c 3) (c 4) (c 5)) o m := itr_cg m _ (fun k y hk => by rw [c6_eq c k (by omega)])
  rw [e2, e3]
  exact ch_all _ _ _ _ _ _ m hm o ho
theorem chX_le (c : Nat → Bool) (o : Nat) : ∀ k, chX c o k ≤ 1000000
  | 0 => Nat.le_refl _
  | k + 1 => by
    have h := chX_le c o k
    have e : chX c o (k + 1) = bif c k then chX c o k / 10 * (10 - o) else chX c o k := rfl
    rw [e]
    cases c k with
    | false => exact h
    | true =>
      show chX c o k / 10 * (10 - o) ≤ 1000000
      have h1 : chX c o k / 10 * (10 - o) ≤ chX c o k / 10 * 10 := Nat.mul_le_mul (Nat.le_refl _) (by omega)
      omega
theorem bt_nI {n i : Nat} (hn : n < 2 ^ 32) : bt (nI n) i = n.testBit i := by
  show (nI n).toBitVec.toNat.testBit i = n.testBit i
  rw [pk_tn hn]
theorem sh_1 : ∀ m, m < 7 → (1 : Int32) <<< (nI m &&& 31) = nI (2 ^ m) := by decide +kernel
/-- whether one can be shown in after so many minutes -/
def chC (l V : Nat → Nat → Int32) (P p j k : Nat) : Bool := shV l (laV l P V k) P p j (ix (laV l P V k 1 p))
section URCH
variable {s : List (Nat ⊕ (Nat × Nat))} {f f' f1 f2 l V V' : Nat → Nat → Int32} {g : Nat → Nat → Int64} {R : Nat → Nat → Option Nat} {L L' K K' d b j p P N w n k a i z m o : Nat} {x y c e : Int32} {E : Int32 → Int32 → Int32 → Int32 → Int32}
theorem x_chl (hX : oX s R L L' K K') (hc : cX s R f 39 L l V N P) (hw : wfV l V N P) (hp : p < P) (hj : j < N) (hm : m < 7) (ho : o < 11) : ∃ f', ur_at ur_G (d + 5) 127 (68, [some (.ref 0), some (.int (nI p)), some (.int (nI j)), some (.int (nI m)), some (.int (nI o)), some (.int 1000000), some (.int 0)], [], (s, f, g, R)) = some (nI (1000000 - chX (chC l V P p j) o m), (s, f', g, R)) ∧ eqT SX f f' := by
  have main := lp (n := m) (Fn := fun k (f' : Nat → Nat → Int32) => ur_at ur_G (d + 5) 127 (68, [some (.ref 0), some (.int (nI p)), some (.int (nI j)), some (.int (nI m)), some (.int (nI o)), some (.int (nI (chX (chC l V P p j) o k))), some (.int (nI k))], [], (s, f', g, R)))
    (I := fun k f' => cX s R f' 39 L l (laV l P V k) N P ∧ wfV l (laV l P V k) N P ∧ eqT SX f f')
    (Q := fun r => r.1 = nI (1000000 - chX (chC l V P p j) o m) ∧ ∃ f', r.2 = (s, f', g, R) ∧ eqT SX f f') ?_ ?_ f ⟨hc, hw, eqT.refl⟩
  · obtain ⟨⟨v', q⟩, e1, e2, f', e3, e4⟩ := main
    dsimp only at e2 e3
    subst e2 e3
    exact ⟨f', e1, e4⟩
  · intro k f2 hk ⟨i1, i2, i3⟩
    obtain ⟨w, hw8, hV⟩ := i2.st p hp
    have hix : ix (laV l P V k 1 p) = w := by rw [hV, ix_nI (by omega)]
    have c1 := c_canShow (d := d + 2) (g := g) i1 hp hj hV hw8
    have hcc : chC l V P p j k = shV l (laV l P V k) P p j w := by unfold chC; rw [hix]
    rw [← hcc] at c1
    obtain ⟨f3, d1, d2, d3, d4⟩ := x_pas (d := d + 1) (g := g) hX i1 i2
    refine ⟨f3, ⟨d2, d3, i3.trans d4⟩, fun r hr => e_X9_chance_68 _ _ _ _ _ _ _ _ ?_⟩
    have e : chX (chC l V P p j) o (k + 1) = bif chC l V P p j k then chX (chC l V P p j) o k / 10 * (10 - o) else chX (chC l V P p j) o k := rfl
    have hle := chX_le (chC l V P p j) o k
    rw [e] at hr
    simp only [d_le (show m < 2 ^ 31 by omega) (show k < 2 ^ 31 by omega), decide_eq_false (show ¬ m ≤ k by omega), cond_false, hX.r6, hX.r1, Option.bind_some, c1, d1, nI_1, ub_0]
    cases q : chC l V P p j k with
    | false => rw [q] at hr; exact hr
    | true =>
      rw [q] at hr
      have e2 : nI (chX (chC l V P p j) o k) / (10 : Int32) * ((10 : Int32) - nI o) = nI (chX (chC l V P p j) o k / 10 * (10 - o)) := by
        rw [show (10 : Int32) = nI 10 from rfl, pk_div (by omega) (by decide) (by decide), pk_sub (by omega), pk_mul]
      simp only [Bool.not_true, cond_false]
      rw [e2]
      exact hr
  · intro f2 ⟨i1, i2, i3⟩
    have hle := chX_le (chC l V P p j) o m
    refine ⟨(nI (1000000 - chX (chC l V P p j) o m), (s, f2, g, R)), e_X9_chance_68 _ _ _ _ _ _ _ _ ?_, rfl, f2, rfl, i3⟩
    simp only [d_le (show m < 2 ^ 31 by omega) (show m < 2 ^ 31 by omega), Nat.le_refl, decide_true, cond_true]
    rw [show (1000000 : Int32) = nI 1000000 from rfl, pk_sub hle]
theorem m_ch1 {f0 : Nat → Nat → Int32} {a5 : Nat} {t : Nat} (h : cM s R f b l V N P E) (hp : p < P) (hj : j < N) (hm : m < 7) (ho : o < 11) (ht : t < 64) (hs : ∀ k, k < 29 → f (b + 35) k = f (b + 33) k) (t0 : eqT (SR b) f0 f) (h33 : ∀ k, k < 29 → f (b + 33) k = f0 (b + 33) k) : ∃ f', cM s R f' b l V N P E ∧ (∀ k, k < 29 → f' (b + 35) k = f' (b + 33) k) ∧ eqT (SR b) f0 f' ∧ (∀ k, k < 29 → f' (b + 33) k = f0 (b + 33) k) ∧ ∀ r, ur_at ur_G (d + 6) 243 (89, [some (.ref b), some (.int (nI p)), some (.int (nI j)), some (.int (nI m)), some (.int (nI o)), some (.long (lN (bif (chP (chC l V P p j) o t m).2 then a5 + (chP (chC l V P p j) o t m).1 else a5))), none, some (.long (lN (10 ^ m))), none, some (.int (nI (t + 1))), none, none, none, none, none], [], (s, f', g, R)) = some r → ur_at ur_G (d + 6) 243 (106, [some (.ref b), some (.int (nI p)), some (.int (nI j)), some (.int (nI m)), some (.int (nI o)), some (.long (lN a5)), none, some (.long (lN (10 ^ m))), none, some (.int (nI t)), some (.long 1), none, some (.int 0), some (.int 0), none], [], (s, f, g, R)) = some r := by
  have hM := h.oM
  have hb : ∀ k f1 V1, k ≤ m → cM s R f1 b l V1 N P E → ((chP (chC l V P p j) o t k).2 = false → V1 = laV l P V k) → eqT (TM b) f f1 → ∃ f2, eqT (TM b) f f2 ∧ (∃ V2, cM s R f2 b l V2 N P E) ∧ ∀ r, ur_at ur_G (d + 6) 243 (106, [some (.ref b), some (.int (nI p)), some (.int (nI j)), some (.int (nI m)), some (.int (nI o)), some (.long (lN a5)), none, some (.long (lN (10 ^ m))), none, some (.int (nI t)), some (.long (lN (chP (chC l V P p j) o t m).1)), none, some (.int (ur_b (chP (chC l V P p j) o t m).2)), some (.int (nI m)), none], [], (s, f2, g, R)) = some r → ur_at ur_G (d + 6) 243 (106, [some (.ref b), some (.int (nI p)), some (.int (nI j)), some (.int (nI m)), some (.int (nI o)), some (.long (lN a5)), none, some (.long (lN (10 ^ m))), none, some (.int (nI t)), some (.long (lN (chP (chC l V P p j) o t k).1)), none, some (.int (ur_b (chP (chC l V P p j) o t k).2)), some (.int (nI k)), none], [], (s, f1, g, R)) = some r := by
    intro k f1 V1 hk i1 i2 i3
    obtain ⟨e, he⟩ : ∃ e, e + k = m := ⟨m - k, by omega⟩
    induction e generalizing k f1 V1 with
    | zero =>
      have : k = m := by omega
      subst this
      exact ⟨f1, i3, ⟨V1, i1⟩, fun r hr => hr⟩
    | succ e ih =>
      obtain ⟨w, hwN, hw8, hV, hf4⟩ := i1.wh hp
      have hix : ix (V1 1 p) = w := by rw [hV, ix_nI (by omega)]
      have c1 := m_canShow (d := d + 3) (g := g) i1 hp hj hV hwN
      have eP : chP (chC l V P p j) o t (k + 1) = ((chP (chC l V P p j) o t k).1 * (bif t.testBit k then o else 10 - o), (chP (chC l V P p j) o t k).2 || (t.testBit k && chC l V P p j k)) := rfl
      have head : ∀ (sh : Bool) f2, sh = (chP (chC l V P p j) o t (k + 1)).2 → ∀ r, ur_at ur_G (d + 6) 243 (106, [some (.ref b), some (.int (nI p)), some (.int (nI j)), some (.int (nI m)), some (.int (nI o)), some (.long (lN a5)), none, some (.long (lN (10 ^ m))), none, some (.int (nI t)), some (.long (lN (chP (chC l V P p j) o t (k + 1)).1)), none, some (.int (ur_b (chP (chC l V P p j) o t (k + 1)).2)), some (.int (nI (k + 1))), none], [], (s, f2, g, R)) = some r → (ur_at ur_G (d + 6) 243 (106, [some (.ref b), some (.int (nI p)), some (.int (nI j)), some (.int (nI m)), some (.int (nI o)), some (.long (lN a5)), none, some (.long (lN (10 ^ m))), none, some (.int (nI t)), some (.long (lN (chP (chC l V P p j) o t k).1 * (nI (bif t.testBit k then o else 10 - o)).toInt64)), none, some (.int (ur_b sh)), some (.int (nI k + 1)), none], [], (s, f2, g, R))) = some r := fun sh f2 hsh r hr => by
        have e1 : lN (chP (chC l V P p j) o t k).1 * (nI (bif t.testBit k then o else 10 - o)).toInt64 = lN (chP (chC l V P p j) o t (k + 1)).1 := by
          rw [nI_l (by cases t.testBit k <;> simp <;> omega), lN_mul, eP]
        rw [e1, hsh, nI_1]
        exact hr
      have top : ∀ r, ur_at ur_G (d + 6) 243 (149, [some (.ref b), some (.int (nI p)), some (.int (nI j)), some (.int (nI m)), some (.int (nI o)), some (.long (lN a5)), none, some (.long (lN (10 ^ m))), none, some (.int (nI t)), none, none, some (.int (ur_b (chP (chC l V P p j) o t k).2)), some (.int (nI k)), some (.int (ur_b (t.testBit k)))], [.long (nI (bif t.testBit k then o else 10 - o)).toInt64, .long (lN (chP (chC l V P p j) o t k).1)], (s, f1, g, R)) = some r → ur_at ur_G (d + 6) 243 (106, [some (.ref b), some (.int (nI p)), some (.int (nI j)), some (.int (nI m)), some (.int (nI o)), some (.long (lN a5)), none, some (.long (lN (10 ^ m))), none, some (.int (nI t)), some (.long (lN (chP (chC l V P p j) o t k).1)), none, some (.int (ur_b (chP (chC l V P p j) o t k).2)), some (.int (nI k)), none], [], (s, f1, g, R)) = some r := fun r hr => by
        refine e_X10_chance_106 _ _ _ _ _ _ _ _ _ _ _ _ ?_
        rw [d_le (show m < 2 ^ 31 by omega) (show k < 2 ^ 31 by omega), decide_eq_false (show ¬ m ≤ k by omega), cond_false, b_bit (show k < 32 by omega), bt_nI (by omega), ub_n1]
        revert hr
        cases t.testBit k with
        | false =>
          intro hr
          have e1 : (10 : Int32) - nI o = nI (10 - o) := by rw [show (10 : Int32) = nI 10 from rfl, pk_sub (by omega)]
          simp only [Bool.not_false, cond_true, e1]
          exact hr
        | true => exact fun hr => hr
      cases hq : (t.testBit k && shV l V1 P p j w) with
      | false =>
        obtain ⟨f2, d1, d2, d3⟩ := m_passes (d := d + 1) (g := g) i1
        have hsh : (chP (chC l V P p j) o t k).2 = (chP (chC l V P p j) o t (k + 1)).2 := by
          rw [eP]
          dsimp only
          cases hs2 : (chP (chC l V P p j) o t k).2 with
          | true => rfl
          | false =>
            have e1 := i2 hs2
            subst e1
            unfold chC
            rw [hix, hq]
            rfl
        obtain ⟨f3, q1, q2, q3⟩ := ih (k + 1) f2 _ (by omega) d2 (fun z => by rw [← hsh] at z; rw [i2 z]; rfl) (i3.trans d3) (by omega)
        refine ⟨f3, q1, q2, fun r hr => top r (e_X10_chance_149 _ _ _ _ _ _ _ _ _ _ _ _ _ _ ?_)⟩
        have hd := head _ f2 hsh r (q3 r hr)
        rw [ub_0]
        cases ht2 : t.testBit k with
        | false =>
          simp only [Bool.not_false, cond_true, d1, Option.bind_some]
          rw [ht2] at hd
          exact hd
        | true =>
          rw [ht2, Bool.true_and] at hq
          rw [hq] at c1
          simp only [Bool.not_true, cond_false, c1, d1, Option.bind_some, ub_0, Bool.not_false, cond_true]
          rw [ht2] at hd
          exact hd
      | true =>
        rw [Bool.and_eq_true] at hq
        obtain ⟨ht2, hsv⟩ := hq
        rw [hsv] at c1
        obtain ⟨f2, d1, d2, d3⟩ := m_shows (d := d + 1) (g := g) i1 hp hj hV hw8 hsv
        obtain ⟨f4, p1, p2, p3⟩ := m_passes (d := d + 1) (g := g) d2
        have hsh : true = (chP (chC l V P p j) o t (k + 1)).2 := by
          rw [eP]
          dsimp only
          cases hs2 : (chP (chC l V P p j) o t k).2 with
          | true => rfl
          | false =>
            have e1 := i2 hs2
            subst e1
            unfold chC
            rw [hix, ht2, hsv]
            rfl
        obtain ⟨f3, q1, q2, q3⟩ := ih (k + 1) f4 _ (by omega) p2 (fun z => by rw [← hsh] at z; cases z) ((i3.trans d3).trans p3) (by omega)
        refine ⟨f3, q1, q2, fun r hr => top r (e_X10_chance_149 _ _ _ _ _ _ _ _ _ _ _ _ _ _ ?_)⟩
        have hd := head _ f4 hsh r (q3 r hr)
        rw [ht2] at hd ⊢
        simp only [ub_0, Bool.not_true, cond_false, c1, d1, p1, Option.bind_some]
        exact hd
  obtain ⟨f2, q1, ⟨V2, q2⟩, q3⟩ := hb 0 f V (by omega) h (fun _ => rfl) eqT.refl
  have hs' : s[b + 35]? = some (.inr (0, 29)) := hM.s35
  obtain ⟨f3, c1, c2, c3⟩ := t_copies (d := d + 5) (f := f2) (g := g) (R := R) (i0 := 0) (j0 := 0) hs' hM.s33 (by decide) (by decide) (by decide) (by decide) (show b + 35 ≠ b + 33 by omega)
  have e35 : ∀ k, f2 (b + 35) k = f (b + 35) k := fun k => q1 _ _ (fun z => by unfold TM at z; omega)
  have e33 : ∀ k, k < 29 → f3 (b + 33) k = f (b + 33) k := fun k hk => by
    have := c2 k hk
    rw [Nat.zero_add] at this
    rw [this, e35, hs k hk]
  have t3 : eqT (TM b) f f3 := q1.trans (c3.mono (fun a k z => Or.inl z.1))
  refine ⟨f3, h.fr t3 TM_no (h.hn.eqv h.p5 reqv.refl e33), fun k hk => ?_, fun a k hn => ?_, fun k hk => by rw [e33 k hk, h33 k hk], fun r hr => ?_⟩
  · rw [c3 _ _ (fun z => by omega), e35, hs k hk, e33 k hk]
  · by_cases hh : a = b + 33 ∧ k < 29
    · rw [hh.1, e33 k hh.2, h33 k hh.2]
    · rw [c3 a k (fun z => hh ⟨z.1, by omega⟩), q1 a k (fun z => by unfold TM at z; unfold SR at hn; omega), t0 a k hn]
  · refine q3 r (e_X10_chance_106 _ _ _ _ _ _ _ _ _ _ _ _ ?_)
    rw [d_le (show m < 2 ^ 31 by omega) (show m < 2 ^ 31 by omega), decide_eq_true (Nat.le_refl m), cond_true, ub_0]
    have c1' : ur_call ur_G (d + 6) 172 [.ref (b + 35), .int (0 : Int32), .ref (b + 33), .int (0 : Int32)] (s, f2, g, R) = some (0, (s, f3, g, R)) := c1
    revert hr
    cases (chP (chC l V P p j) o t m).2 with
    | false =>
      intro hr
      simp only [Bool.not_false, cond_true, hM.r46, hM.r44, Option.bind_some, c1', nI_1]
      exact hr
    | true =>
      intro hr
      simp only [Bool.not_true, cond_false, hM.r46, hM.r44, Option.bind_some, c1', nI_1, lN_add]
      exact hr
theorem m_chance (h : cM s R f b l V N P E) (hp : p < P) (hj : j < N) (hu : bt (l 0 9) j = true) (h1 : 1 ≤ m) (hm : m < 7) (ho : o < 11) : ∃ f', ur_call ur_G (d + 7) 243 [.ref b, .int (nI p), .int (nI j), .int (nI m), .int (nI o)] (s, f, g, R) = some (nI (1000000 - chX (chC l V P p j) o m), (s, f', g, R)) ∧ eqT (SR b) f f' := by
  have hM := h.oM
  have h8 := h.r8
  have h5 := h.p5
  have h0 := m_thr h
  obtain ⟨f1, c1, c2, c3, c4⟩ := m_save (d := d + 5) (g := g) (a := 35) h0 (Or.inr rfl)
  have t1 : eqT (SR b) f f1 := (eqT_u SR_0).trans (c4.mono (fun i k z => by unfold SR; omega))
  have e33 : f1 (b + 33) = f (b + 33) := by rw [c4.row (fun k z => by omega), ur_ua (by omega)]
  obtain ⟨k1, k2⟩ := ch_eq (chC l V P p j) hm ho
  have sets : ∀ n t f2, n + t = 2 ^ m → cM s R f2 b l V N P E → (∀ k, k < 29 → f2 (b + 35) k = f2 (b + 33) k) → eqT (SR b) f f2 → (∀ k, k < 29 → f2 (b + 33) k = f (b + 33) k) → ∃ f', ur_at ur_G (d + 6) 243 (89, [some (.ref b), some (.int (nI p)), some (.int (nI j)), some (.int (nI m)), some (.int (nI o)), some (.long (lN (chS (chC l V P p j) o m t))), none, some (.long (lN (10 ^ m))), none, some (.int (nI t)), none, none, none, none, none], [], (s, f2, g, R)) = some (nI (1000000 - chX (chC l V P p j) o m), (s, f', g, R)) ∧ eqT (SR b) f f' := by
    have hp2 : 2 ^ m ≤ 64 := Nat.pow_le_pow_right (n := 2) (by decide) (show m ≤ 6 by omega)
    intro n
    induction n with
    | zero =>
      intro t f2 ht i1 i2 i3 i4
      have : t = 2 ^ m := by omega
      subst this
      refine ⟨f2, e_X10_chance_89 _ _ _ _ _ _ _ _ _ ?_, i3⟩
      rw [sh_1 m hm, decide_eq_true (Int32.le_refl _), cond_true]
      have hp1 : 0 < 10 ^ m := Nat.pow_pos (by decide)
      have hp3 : 10 ^ m ≤ 1000000 := Nat.le_trans (Nat.pow_le_pow_right (n := 10) (by decide) (show m ≤ 6 by omega)) (by decide)
      have hne : (lN (10 ^ m) == 0) = false := by
        rw [beq_eq_false_iff_ne]
        intro q
        have := (lN_eq (a := 10 ^ m) (b := 0) (by omega) (by decide)).mp q
        omega
      rw [hne, cond_false, Option.bind_some, show (1000000 : Int64) = lN 1000000 from rfl, lN_mul, pk_lDiv (by omega) hp1 (by omega), k2, lN_i]
    | succ n ih =>
      intro t f2 ht i1 i2 i3 i4
      obtain ⟨f3, q1, q2, q3, q4, q5⟩ := m_ch1 (d := d) (g := g) (a5 := chS (chC l V P p j) o m t) (t := t) i1 hp hj hm ho (by omega) i2 i3 i4
      obtain ⟨f4, r1, r2⟩ := ih (t + 1) f3 (by omega) q1 q2 q3 q4
      refine ⟨f4, e_X10_chance_89 _ _ _ _ _ _ _ _ _ ?_, r2⟩
      rw [sh_1 m hm, d_le (show 2 ^ m < 2 ^ 31 by omega) (show t < 2 ^ 31 by omega), decide_eq_false (show ¬ 2 ^ m ≤ t by omega), cond_false]
      exact q5 _ r1
  obtain ⟨f2, d1, d2⟩ := sets (2 ^ m) 0 f1 (by omega) c2 (fun k hk => by rw [c3 k hk, e33, ur_ua (by omega)]) t1 (fun k hk => by rw [e33])
  have pw := lp (n := m) (Fn := fun k (_ : Unit) => ur_at ur_G (d + 6) 243 (53, [some (.ref b), some (.int (nI p)), some (.int (nI j)), some (.int (nI m)), some (.int (nI o)), some (.long 0), none, some (.long (lN (10 ^ k))), none, some (.int (nI k)), none, none, none, none, none], [], (s, ur_u f b 0 0, g, R))) (I := fun _ _ => True) (Q := fun r => r = (nI (1000000 - chX (chC l V P p j) o m), (s, f2, g, R))) ?_ ?_ () trivial
  · obtain ⟨r, e1, e2⟩ := pw
    subst e2
    refine ⟨f2, ur_cl hM.rcv rfl (e_X10_chance_0 _ _ _ _ _ _ ?_), d2⟩
    have w1 : decide (nI m < (1 : Int32)) = false := decide_eq_false (nI_nlt (a := m) (b := 1) h1 (by omega))
    have w2 : decide ((6 : Int32) < nI m) = false := decide_eq_false (nI_nlt (a := 6) (b := m) (by omega) (by decide))
    have w3 : decide (nI o < (0 : Int32)) = false := decide_eq_false (nI_pos (by omega))
    have w4 : decide ((10 : Int32) < nI o) = false := decide_eq_false (nI_nlt (a := 10) (b := o) (by omega) (by decide))
    simp only [hM.pI, Option.bind_some, t_isPerson hM h0.ep, inR_in hp (show P < 2 ^ 31 by omega), ub_0, Bool.not_true, cond_false, m_uns h0 hj, hu, t_within, w1, w2, w3, w4, Bool.not_false, Bool.and_self, ub_n0, cond_true]
    exact e1
  · intro k _ hk _
    refine ⟨(), trivial, fun r hr => e_X10_chance_53 _ _ _ _ _ _ _ _ _ ?_⟩
    rw [d_le (show m < 2 ^ 31 by omega) (show k < 2 ^ 31 by omega), decide_eq_false (show ¬ m ≤ k by omega), cond_false, show (10 : Int64) = lN 10 from rfl, lN_mul, nI_1]
    exact hr
  · intro _ _
    refine ⟨(nI (1000000 - chX (chC l V P p j) o m), (s, f2, g, R)), e_X10_chance_53 _ _ _ _ _ _ _ _ _ ?_, rfl⟩
    have c1' : ur_call ur_G (d + 6) 172 [.ref (b + 33), .int (0 : Int32), .ref (b + 35), .int (0 : Int32)] (s, ur_u f b 0 0, g, R) = some (0, (s, f1, g, R)) := c1
    rw [d_le (show m < 2 ^ 31 by omega) (show m < 2 ^ 31 by omega), decide_eq_true (Nat.le_refl m), cond_true]
    simp only [hM.r46, hM.r44, Option.bind_some, c1']
    exact d1
theorem j_chance (h : JV s R f g L L' K K' l V N P E) : JQ s R f g (d + 60) 127 243 [.int x, .int y, .int c, .int e] := by
  have hX := h.oX
  have hc := h.cX
  have h8 := h.r8
  have h5 := h.p5
  have bad : (inR x P = false ∨ (inR y N = false ∨ ∃ j, j < N ∧ y = nI j ∧ bt (l 0 9) j = false) ∨ ((!decide (c < 1) && !decide (6 < c)) && (!decide (e < 0) && !decide (10 < e))) = false) → JQ s R f g (d + 60) 127 243 [.int x, .int y, .int c, .int e] := fun hb => by
    have xu : ∃ u : Bool, ((inR y N = false ∨ ∃ j, j < N ∧ y = nI j ∧ bt (l 0 9) j = false) → u = false) ∧ (∀ dd, ur_call ur_G (dd + 2) 5 [.ref L, .int y] (s, f, g, R) = some (ur_b u, (s, f, g, R))) ∧ (∀ dd V' f1, cM s R f1 208 l V' N P E → ur_call ur_G (dd + 2) 181 [.ref 208, .int y] (s, f1, g, R) = some (ur_b u, (s, f1, g, R))) := by
      rcases inR_c y (show N < 2 ^ 31 by omega) with ⟨j, hj, rfl⟩ | hy
      · refine ⟨bt (l 0 9) j, fun q => ?_, fun dd => c_uns hc hj, fun dd V' f1 hM => m_uns hM hj⟩
        rcases q with q | ⟨j', hj', e1, e2⟩
        · rw [inR_in hj (by omega)] at q; cases q
        · rw [(nI_eq (by omega) (by omega)).mp e1]; exact e2
      · exact ⟨false, fun _ => rfl, fun dd => c_uns_out hc hy, fun dd V' f1 hM => m_uns_out hM hy⟩
    obtain ⟨u, u1, u2, u3⟩ := xu
    have hb2 : (inR x P && (u && ((!decide (c < 1) && !decide (6 < c)) && (!decide (e < 0) && !decide (10 < e))))) = false := by
      rcases hb with q | q | q
      · rw [q]; rfl
      · rw [u1 q, Bool.false_and, Bool.and_false]
      · rw [q, Bool.and_false, Bool.and_false]
    refine jq_mk h (fun V => -1) ⟨V, f, reqv.refl, ur_cl hX.rcv rfl (e_X9_chance_0 _ _ _ _ _ _ ?_), eqT.refl⟩ (fun V' f1 hM => ⟨ur_u f1 208 0 0, ur_cl hM.oM.rcv rfl (e_X10_chance_0 _ _ _ _ _ _ ?_), eqT_u SR_0⟩)
    · simp only [hX.r1, Option.bind_some, s_hasPerson hc.oL hc.ep, u2 (d + 57), ub_0, ub_n0]
      rw [d_nl e]
      revert hb2
      cases inR x P <;> cases u <;> cases decide (c < 1) <;> cases decide (6 < c) <;> cases decide (e < 0) <;> cases decide (10 < e) <;> intro hb2 <;> first | (exact absurd hb2 (by decide)) | rfl
    · simp only [hM.oM.pI, Option.bind_some, t_isPerson hM.oM (m_thr hM).ep, u3 (d + 57) V' _ (m_thr hM), ub_0, ub_n0, t_within]
      revert hb2
      cases inR x P <;> cases u <;> cases decide (c < 1) <;> cases decide (6 < c) <;> cases decide (e < 0) <;> cases decide (10 < e) <;> intro hb2 <;> first | (exact absurd hb2 (by decide)) | rfl
  rcases inR_c x (show P < 2 ^ 31 by omega) with ⟨p, hp, rfl⟩ | hx
  · rcases inR_c y (show N < 2 ^ 31 by omega) with ⟨j, hj, rfl⟩ | hy
    · cases hu : bt (l 0 9) j with
      | false => exact bad (Or.inr (Or.inl (Or.inr ⟨j, hj, rfl, hu⟩)))
      | true =>
        cases hb : ((!decide (c < 1) && !decide (6 < c)) && (!decide (e < 0) && !decide (10 < e))) with
        | false => exact bad (Or.inr (Or.inr hb))
        | true =>
          simp only [Bool.and_eq_true, Bool.not_eq_true', decide_eq_false_iff_not] at hb
          obtain ⟨⟨c1, c2⟩, e1, e2⟩ := hb
          have c0 : ¬ c < 0 := fun q => c1 (Int32.lt_trans q (by decide))
          obtain ⟨m, hm, rfl⟩ := nI_of2 (n := 6) (M := 6) (by decide) c0 (Int32.not_lt.mp c2)
          obtain ⟨o, ho, rfl⟩ := nI_of2 (n := 10) (M := 10) (by decide) e1 (Int32.not_lt.mp e2)
          have hm1 : 1 ≤ m := by
            rcases Nat.lt_or_ge m 1 with q | q
            · have : m = 0 := by omega
              subst this
              exact absurd (by decide) c1
            · exact q
          obtain ⟨V', f1, hv, a1, a2, a3, a4⟩ := x_trial (d := d + 58) (g := g) h.xC
          obtain ⟨f2, b1, b2⟩ := x_chl (d := d + 54) (g := g) hX a2 a3 hp hj (show m < 7 by omega) (show o < 11 by omega)
          refine jq_mk h (fun V => nI (1000000 - chX (chC l V P p j) o m)) ⟨V', f2, hv, ur_cl hX.rcv rfl (e_X9_chance_0 _ _ _ _ _ _ ?_), a4.trans b2⟩ (fun V' f1 hM => m_chance (d := d + 53) (g := g) hM hp hj hu hm1 (by omega) (by omega))
          rw [d_nl (nI o)]
          simp only [hX.r1, Option.bind_some, s_hasPerson hc.oL hc.ep, inR_in hp (show P < 2 ^ 31 by omega), c_uns hc hj, hu, ub_0, ub_n0, Bool.not_true, cond_false, cond_true, decide_eq_false c1, decide_eq_false c2, decide_eq_false e1, decide_eq_false e2, Bool.not_false, hX.r6, hX.r5, a1]
          exact b1
    · exact bad (Or.inr (Or.inl (Or.inl hy)))
  · exact bad (Or.inl hx)
end URCH

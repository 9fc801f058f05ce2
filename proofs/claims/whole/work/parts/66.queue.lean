/-! queue, on both sides -/
def rmB (x : Int32) (p : Nat) : Int32 := x &&& (((1 : Int32) <<< (nI p &&& 31)) ^^^ (-1))
theorem rmB_bt {x : Int32} {p i : Nat} (hp : p < 32) (hi : i < 32) : bt (rmB x p) i = (bt x i && !decide (i = p)) := by
  unfold rmB
  rw [b_and, b_not hi, b_one hp hi]
theorem rmB_cN {x : Int32} {p : Nat} (hb : bt x p = true) : ∀ n, n ≤ 32 → p < n → cN (rmB x p) n + 1 = cN x n
  | 0, _, h => absurd h (by omega)
  | n + 1, hn, h => by
    show cN (rmB x p) n + (bif bt (rmB x p) n then 1 else 0) + 1 = cN x n + (bif bt x n then 1 else 0)
    rw [rmB_bt (by omega) (by omega)]
    by_cases e : p = n
    · subst e
      have q : ∀ k, k ≤ p → cN (rmB x p) k = cN x k := by
        intro k
        induction k with
        | zero => intro _; rfl
        | succ k ih =>
          intro hk
          show cN (rmB x p) k + (bif bt (rmB x p) k then 1 else 0) = cN x k + (bif bt x k then 1 else 0)
          rw [ih (by omega), rmB_bt (by omega) (by omega), decide_eq_false (show ¬ k = p by omega), Bool.not_false, Bool.and_true]
      rw [q p (Nat.le_refl p), hb, decide_eq_true rfl]
      rfl
    · rw [decide_eq_false (show ¬ n = p from fun z => e z.symm), Bool.not_false, Bool.and_true]
      have := rmB_cN hb n (by omega) (by omega)
      omega
theorem cN_0 {x : Int32} : ∀ n, cN x n = 0 → ∀ i, i < n → bt x i = false
  | 0, _, i, hi => absurd hi (by omega)
  | n + 1, h, i, hi => by
    have h' : cN x n + (bif bt x n then 1 else 0) = 0 := h
    by_cases e : i = n
    · subst e
      cases hb : bt x i with
      | false => rfl
      | true => rw [hb] at h'; simp at h'
    · exact cN_0 n (by omega) i (by omega)
/-- every row tried, the first ones first -/
def qB (T : Nat → Nat → Nat) : Nat → Int32 → Nat → Nat → Nat → (Nat → Int32) → Nat × (Nat → Int32) → Nat × (Nat → Int32)
  | 0, _, _, _, sum, row, st => bif decide (sum < st.1) then (sum, row) else st
  | n + 1, left, place, clock, sum, row, st => itr (fun p st => bif bt left p then qB T n (rmB left p) (place + 1) (clock + T p place) (sum + (clock + T p place)) (up row place (nI p)) st else st) 5 st
def qS (T : Nat → Nat → Nat) (n : Nat) (left : Int32) (place clock sum : Nat) (row : Nat → Int32) (p : Nat) (st : Nat × (Nat → Int32)) : Nat × (Nat → Int32) := bif bt left p then qB T n (rmB left p) (place + 1) (clock + T p place) (sum + (clock + T p place)) (up row place (nI p)) st else st
theorem qB_s {T : Nat → Nat → Nat} {n : Nat} {left : Int32} {place clock sum : Nat} {row : Nat → Int32} {st : Nat × (Nat → Int32)} : qB T (n + 1) left place clock sum row st = itr (qS T n left place clock sum row) 5 st := rfl
theorem itr_st {σ : Type} {step : Nat → σ → σ} {x : σ} : ∀ n, (∀ k, k < n → step k x = x) → itr step n x = x
  | 0, _ => rfl
  | n + 1, h => by
    show step n (itr step n x) = x
    rw [itr_st n (fun k hk => h k (by omega)), h n (by omega)]
theorem qB_prune {T : Nat → Nat → Nat} : ∀ (n : Nat) (left : Int32) (place clock sum : Nat) (row : Nat → Int32) (st : Nat × (Nat → Int32)), st.1 ≤ sum → qB T n left place clock sum row st = st
  | 0, _, _, _, sum, _, st, h => by
    show (bif decide (sum < st.1) then _ else st) = st
    rw [decide_eq_false (by omega)]
    rfl
  | n + 1, left, place, clock, sum, row, st, h => by
    rw [qB_s]
    refine itr_st 5 (fun p _ => ?_)
    unfold qS
    cases bt left p with
    | false => rfl
    | true => exact qB_prune n _ _ _ _ _ _ (by omega)
theorem itr_id {σ : Type} {step : Nat → σ → σ} {x : σ} {P : Nat} : ∀ n, P ≤ n → (∀ k y, P ≤ k → k < n → step k y = y) → itr step n x = itr step P x
  | 0, h, _ => by rw [show P = 0 by omega]
  | n + 1, h, hs => by
    by_cases e : P = n + 1
    · rw [e]
    · show step n (itr step n x) = _
      rw [hs n _ (by omega) (by omega), itr_id n (by omega) (fun k y h1 h2 => hs k y h1 (by omega))]
theorem fsT_is {t : (Nat → Nat → Int32) → Bool} {l : Nat → Nat → Int32} {P : Nat} : ∀ (n k : Nat) (V : Nat → Nat → Int32), fsT t l P n k V = -1 ∨ ∃ q, k ≤ q ∧ q < k + n ∧ fsT t l P n k V = nI q
  | 0, _, _ => Or.inl rfl
  | n + 1, k, V => by
    have e : fsT t l P (n + 1) k V = bif t V then nI k else fsT t l P n (k + 1) (pasV l P V).2 := rfl
    rw [e]
    cases t V with
    | true => exact Or.inr ⟨k, Nat.le_refl _, by omega, rfl⟩
    | false =>
      rcases fsT_is (t := t) (l := l) (P := P) n (k + 1) (pasV l P V).2 with q | ⟨q, h1, h2, h3⟩
      · exact Or.inl q
      · exact Or.inr ⟨q, by omega, by omega, h3⟩
theorem i_m1 (x : Int32) : decide ((-1 : Int32) < x) = decide ((0 : Int32) ≤ x) := by
  have e1 : (-1 : Int32).toInt = -1 := by decide
  have e0 : (0 : Int32).toInt = 0 := by decide
  have : ((-1 : Int32) < x) ↔ ((0 : Int32) ≤ x) := by
    rw [Int32.lt_iff_toInt_lt, Int32.le_iff_toInt_le, e1, e0]
    omega
  simp only [this]
theorem q_z {z : Nat} (hz : z ≤ 8) (x : Int32) : decide (nI z - 1 < x) = decide (nI z ≤ x) := by
  cases z with
  | zero => exact i_m1 x
  | succ z => rw [nI_pred, i_le1 (by omega)]
def fiV (V l : Nat → Nat → Int32) (p : Nat) : Bool := !inV V p && ltV V l p
section URQU
variable {s : List (Nat ⊕ (Nat × Nat))} {f f' f1 f2 l V V' : Nat → Nat → Int32} {g : Nat → Nat → Int64} {R : Nat → Nat → Option Nat} {L L' K K' d b j p P N w n k a i z m o : Nat} {x y c e X n0 : Int32} {E : Int32 → Int32 → Int32 → Int32 → Int32} {T : Nat → Nat → Nat}
def TRw : Nat → Nat → Prop := fun a k => a = 51 ∨ a = 52 ∨ (a = 50 ∧ k = 4)
theorem x_rows (hO : oLine s R 50) (hz : z ≤ 5) (hT : ∀ p q, T p q ≤ 30) : ∀ (n : Nat) (left : Int32) (place clock sum : Nat) (row : Nat → Int32) (st : Nat × (Nat → Int32)) (f : Nat → Nat → Int32), cN left 5 = n → place + n = z → clock + 30 * n ≤ 300 → sum + 300 * n ≤ 3000 → f 50 3 = nI z → f 50 4 = nI st.1 → st.1 < 2 ^ 31 → (∀ i, i < place → f 51 i = row i) → (∀ i, i < z → f 52 i = st.2 i) → (∀ p q, p < 5 → bt left p = true → q < 5 → f 53 (p * 5 + q) = nI (T p q)) → ∃ f', ur_call ur_G (d + n + 2) 34 [.ref 50, .int (nI place), .int left, .int (nI clock), .int (nI sum)] (s, f, g, R) = some (0, (s, f', g, R)) ∧ f' 50 4 = nI (qB T n left place clock sum row st).1 ∧ (qB T n left place clock sum row st).1 < 2 ^ 31 ∧ (∀ i, i < z → f' 52 i = (qB T n left place clock sum row st).2 i) ∧ (∀ i, i < place → f' 51 i = f 51 i) ∧ eqT TRw f f' := by
  intro n
  induction n with
  | zero =>
    intro left place clock sum row st f hc hp hcl hsm e3 e4 hst hrow hbest htab
    have hpz : place = z := by omega
    subst hpz
    have hq : qB T 0 left place clock sum row st = bif decide (sum < st.1) then (sum, row) else st := rfl
    rw [hq, show d + 0 + 2 = d + 1 + 1 by omega]
    have go : ∀ f', ur_call ur_G (d + 1) 35 [.ref 50, .int (nI sum)] (s, f, g, R) = some (0, (s, f', g, R)) → ur_call ur_G (d + 1 + 1) 34 [.ref 50, .int (nI place), .int left, .int (nI clock), .int (nI sum)] (s, f, g, R) = some (0, (s, f', g, R)) := fun f' h => by
      refine ur_cl hO.rcv rfl (e_X3_tryRows_0 _ _ _ _ _ _ ?_)
      simp only [hO.I, Option.bind_some, e3, d_lt (show place < 2 ^ 31 by omega) (show place < 2 ^ 31 by omega), decide_eq_false (Nat.lt_irrefl place), cond_false, h]
    by_cases hlt : sum < st.1
    · rw [decide_eq_true hlt]
      obtain ⟨f1, hf1⟩ : ∃ f1, f1 = ur_u f 50 4 (nI sum) := ⟨_, rfl⟩
      have cp : ur_cpy (s, f1, g, R) (50 + 1) 0 (50 + 2) 0 5 = some (s, ur_row f1 (50 + 2) (va_cpy (f1 (50 + 1)) (f1 (50 + 2)) 0 0 5), g, R) := vcpy (n := 5) hO.s1 hO.s2 (by decide) (by decide) (by decide)
      refine ⟨ur_row f1 52 (va_cpy (f1 51) (f1 52) 0 0 5), go _ (ur_cl hO.rcv rfl (e_X3_keepIfBetter_0 _ _ _ ?_)), ?_, ?_, fun i hi => ?_, fun i hi => ?_, ?_⟩
      · simp only [hO.I, Option.bind_some, e4, d_le hst (show sum < 2 ^ 31 by omega), decide_eq_false (show ¬ st.1 ≤ sum by omega), cond_false, hO.pI, ← hf1, hO.r0, hO.r1, cp]
      · rw [ur_ra (by decide), hf1, ur_us]; rfl
      · show sum < 2 ^ 31
        omega
      · rw [ur_rs, va_c 5 _ _ i (by omega), hf1, ur_ua (by decide), hrow i hi]; rfl
      · rw [ur_ra (by decide), hf1, ur_ua (by decide)]
      · rw [hf1]
        exact (eqT_u (T := TRw) (Or.inr (Or.inr ⟨rfl, rfl⟩))).rw' (fun k => Or.inr (Or.inl rfl))
    · rw [decide_eq_false hlt]
      refine ⟨f, go _ (ur_cl hO.rcv rfl (e_X3_keepIfBetter_0 _ _ _ ?_)), e4, hst, hbest, fun i _ => rfl, eqT.refl⟩
      simp only [hO.I, Option.bind_some, e4, d_le hst (show sum < 2 ^ 31 by omega), decide_eq_true (show st.1 ≤ sum by omega), cond_true]
  | succ n ih =>
    intro left place clock sum row st f hc hp hcl hsm e3 e4 hst hrow hbest htab
    rw [show d + (n + 1) + 2 = d + n + 2 + 1 by omega]
    have main := lp (n := 5) (Fn := fun j (f' : Nat → Nat → Int32) => ur_at ur_G (d + n + 2) 34 (18, [some (.ref 50), some (.int (nI place)), some (.int left), some (.int (nI clock)), some (.int (nI sum)), some (.int (nI j)), none], [], (s, f', g, R)))
      (I := fun j f' => f' 50 4 = nI (itr (qS T n left place clock sum row) j st).1 ∧ (itr (qS T n left place clock sum row) j st).1 < 2 ^ 31 ∧ (∀ i, i < z → f' 52 i = (itr (qS T n left place clock sum row) j st).2 i) ∧ (∀ i, i < place → f' 51 i = f 51 i) ∧ eqT TRw f f')
      (Q := fun r => r.1 = 0 ∧ ∃ f', r.2 = (s, f', g, R) ∧ f' 50 4 = nI (itr (qS T n left place clock sum row) 5 st).1 ∧ (itr (qS T n left place clock sum row) 5 st).1 < 2 ^ 31 ∧ (∀ i, i < z → f' 52 i = (itr (qS T n left place clock sum row) 5 st).2 i) ∧ (∀ i, i < place → f' 51 i = f 51 i) ∧ eqT TRw f f') ?_ ?_ f ⟨e4, hst, hbest, fun i _ => rfl, eqT.refl⟩
    · obtain ⟨⟨v', q⟩, m1, m2, f', m3, m4⟩ := main
      dsimp only at m2 m3
      subst m2 m3
      refine ⟨f', ur_cl hO.rcv rfl (e_X3_tryRows_0 _ _ _ _ _ _ ?_), m4⟩
      simp only [hO.I, Option.bind_some, e3, d_lt (show place < 2 ^ 31 by omega) (show z < 2 ^ 31 by omega), decide_eq_true (show place < z by omega), cond_true]
      exact m1
    · intro j f1 hj ⟨i1, i2, i3, i4, i5⟩
      have es : itr (qS T n left place clock sum row) (j + 1) st = qS T n left place clock sum row j (itr (qS T n left place clock sum row) j st) := rfl
      rw [es]
      generalize itr (qS T n left place clock sum row) j st = st1 at i1 i2 i3
      have n5 : decide ((5 : Int32) ≤ nI j) = false := decide_eq_false (nI_ge (b := 5) hj (by decide))
      unfold qS
      cases hb : bt left j with
      | false =>
        refine ⟨f1, ⟨i1, i2, i3, i4, i5⟩, fun r hr => e_X3_tryRows_18 _ _ _ _ _ _ _ ?_⟩
        rw [n5, cond_false]
        simp only [s_bit left (show j < 32 by omega), hb, Option.bind_some, ub_n1, Bool.not_false, cond_true, nI_1]
        exact hr
      | true =>
        have hcn := rmB_cN hb 5 (by decide) hj
        have ht := hT j place
        obtain ⟨f2, hf2⟩ : ∃ f2, f2 = ur_u f1 51 place (nI j) := ⟨_, rfl⟩
        have t2 : eqT TRw f f2 := by rw [hf2]; exact i5.u (Or.inl rfl)
        have o2 : ∀ a, a ≠ 51 → f2 a = f1 a := fun a ha => by rw [hf2, ur_ua ha]
        have e53 : f2 53 = f 53 := t2.row (fun k z => by unfold TRw at z; omega)
        obtain ⟨f3, c1, c2, c3, c4, c5, c6⟩ := ih (rmB left j) (place + 1) (clock + T j place) (sum + (clock + T j place)) (up row place (nI j)) st1 f2 (by omega) (by omega) (by omega) (by omega) (by rw [t2 50 3 (fun z => by unfold TRw at z; omega), e3]) (by rw [o2 _ (by decide), i1]) i2 (fun i hi => by
          by_cases q : i = place
          · rw [q, hf2, ur_us, up_s]
          · rw [hf2, ur_un q, up_n q, i4 i (by omega), hrow i (by omega)]) (fun i hi => by rw [o2 _ (by decide), i3 i hi]) (fun p q h1 h2 h3 => by
          rw [rmB_bt (by omega) (by omega), Bool.and_eq_true] at h2
          rw [e53]
          exact htab p q h1 h2.1 h3)
        refine ⟨f3, ⟨c2, c3, c4, fun i hi => ?_, t2.trans c6⟩, fun r hr => e_X3_tryRows_18 _ _ _ _ _ _ _ ?_⟩
        · rw [c5 i (by omega), hf2, ur_un (by omega), i4 i hi]
        · have w1 : ur_wI (s, f1, g, R) (50 + 1) 0 (nI place) (nI j) = some (s, f2, g, R) := by rw [hf2]; exact hO.w1 (show place < 5 by omega)
          have x1 : nI j * (5 : Int32) + nI place = nI (j * 5 + place) := by rw [show (5 : Int32) = nI 5 from rfl, pk_mul, nI_add]
          have e3' : f2 (50 + 3) (j * 5 + place) = nI (T j place) := by rw [show f2 (50 + 3) = f 53 from e53, htab j place hj hb (by omega)]
          rw [n5, cond_false]
          simp only [s_bit left (show j < 32 by omega), hb, Option.bind_some, ub_n1, Bool.not_true, cond_false, hO.r0, w1, hO.r2, x1, hO.a3 (show j * 5 + place < 25 by omega), e3', nI_1, nI_add]
          rw [show left &&& (((1 : Int32) <<< (nI j &&& 31)) ^^^ (-1)) = rmB left j from rfl, c1, Option.bind_some]
          exact hr
    · intro f1 hI
      exact ⟨(0, (s, f1, g, R)), e_X3_tryRows_18 _ _ _ _ _ _ _ rfl, rfl, f1, rfl, hI⟩
/-- the answer -/
def quA (r : Nat × (Nat → Int32)) (z : Nat) (y : Int32) : Int32 := bif decide (y = -1) then nI r.1 else bif inR y z then r.2 (ix y) else -2
theorem x_settle (hX : oX s R L L' K K') (hc : cX s R f 33 L l V N P) (hE : lwX l E) (hw : wfV l V N P) (hj : j < N) (hn0 : n0 = V 0 7 + (bif freeT P j V then 0 else 1)) (hT : ∀ p q, p < P → q < 5 → syV E l V p j (n0 + nI q) = nI (T p q)) (hT3 : ∀ p q, T p q ≤ 30) (hk : k ≤ 60) : ∃ f' row st, ur_call ur_G (d + 12) 33 [.ref 50, .ref L, .ref 33, .int (nI j), .int (nI k)] (s, f, g, R) = some (0, (s, f', g, R)) ∧ st.1 = 2147483647 ∧ f' 50 3 = nI (cN (sB (fiV V l) P) 5) ∧ f' 50 4 = nI (qB T (cN (sB (fiV V l) P) 5) (sB (fiV V l) P) 0 k 0 row st).1 ∧ (∀ i, i < cN (sB (fiV V l) P) 5 → f' 52 i = (qB T (cN (sB (fiV V l) P) 5) (sB (fiV V l) P) 0 k 0 row st).2 i) ∧ eqT SX f f' := by
  have hL := hX.eL
  have h8 := hc.r8
  have h5 := hc.p5
  have hO := hX.line
  have hdd := hc.dd
  have main : ∀ (n p : Nat) (f1 : Nat → Nat → Int32), n + p = P → cX s R f1 33 L l V N P → (∀ q i, q < p → fiV V l q = true → i < 5 → f1 53 (q * 5 + i) = nI (T q i)) → eqT SX f f1 → ∃ f' row st, ur_at ur_G (d + 11) 33 (28, [some (.ref 50), some (.ref L), some (.ref 33), some (.int (nI j)), some (.int (nI k)), some (.int (sB (fiV V l) p)), some (.int n0), some (.int (nI p)), none], [], (s, f1, g, R)) = some (0, (s, f', g, R)) ∧ st.1 = 2147483647 ∧ f' 50 3 = nI (cN (sB (fiV V l) P) 5) ∧ f' 50 4 = nI (qB T (cN (sB (fiV V l) P) 5) (sB (fiV V l) P) 0 k 0 row st).1 ∧ (∀ i, i < cN (sB (fiV V l) P) 5 → f' 52 i = (qB T (cN (sB (fiV V l) P) 5) (sB (fiV V l) P) 0 k 0 row st).2 i) ∧ eqT SX f f' := by
    intro n
    induction n with
    | zero =>
      intro p f1 hp i1 i2 i3
      have : p = P := by omega
      subst this
      have sm : sm8 (sB (fiV V l) p) := sm8_sB (by omega)
      have ec : bc32 (sB (fiV V l) p) = nI (cN (sB (fiV V l) p) 5) := by
        rw [bc_sm sm, cnB_cN, cN_top (N := 5) 8 (by decide) (fun i q1 q2 => by rw [sB_bt _ p (by omega) i (by omega), decide_eq_false (show ¬ i < p by omega), Bool.false_and])]
      have hz5 := cN_le (sB (fiV V l) p) 5
      obtain ⟨z, hz⟩ : ∃ z, z = cN (sB (fiV V l) p) 5 := ⟨_, rfl⟩
      rw [← hz] at ec hz5
      rw [← hz]
      obtain ⟨f2, hf2⟩ : ∃ f2, f2 = ur_u (ur_u f1 50 3 (nI z)) 50 4 2147483647 := ⟨_, rfl⟩
      have o2 : ∀ a, a ≠ 50 → f2 a = f1 a := fun a ha => by rw [hf2, ur_ua ha, ur_ua ha]
      obtain ⟨f3, c1, c2, c3, c4, c5, c6⟩ := x_rows (d := d + 9 - z) (g := g) (T := T) (z := z) hO hz5 hT3 z (sB (fiV V l) p) 0 k 0 (fun _ => 0) (2147483647, f2 52) f2 hz.symm (by omega) (by omega) (by omega) (by rw [hf2, ur_un (by decide), ur_us]) (by rw [hf2, ur_us]; rfl) (by show 2147483647 < 2 ^ 31; decide) (fun i hi => absurd hi (by omega)) (fun i hi => rfl) (fun q i h1 h2 h3 => by
        rw [sB_bt _ p (by omega) q (by omega), Bool.and_eq_true] at h2
        rw [o2 _ (by decide)]
        exact i2 q i (of_decide_eq_true h2.1) h2.2 h3)
      refine ⟨f3, fun _ => 0, (2147483647, f2 52), e_X3_settle_28 _ _ _ _ _ _ _ _ _ ?_, rfl, ?_, c2, c4, ?_⟩
      · rw [show d + 9 - z + z + 2 = d + 11 by omega] at c1
        have c1' : ur_call ur_G (d + 11) 34 [.ref 50, .int (0 : Int32), .int (sB (fiV V l) p), .int (nI k), .int (0 : Int32)] (s, f2, g, R) = some (0, (s, f3, g, R)) := c1
        simp only [i1.oL.I, Option.bind_some, i1.ep, d_le (show p < 2 ^ 31 by omega) (show p < 2 ^ 31 by omega), Nat.le_refl, decide_true, cond_true, u_bc, ec, hO.pI, ← hf2, c1']
      · rw [c6 50 3 (fun q => by unfold TRw at q; omega), hf2, ur_un (by decide), ur_us]
      · refine (i3.trans ?_).trans (c6.mono (fun a k q => by unfold TRw at q; unfold SX; omega))
        rw [hf2]
        exact (eqT_u (by unfold SX; omega)).u (by unfold SX; omega)
    | succ n ih =>
      intro p f1 hp i1 i2 i3
      have hin := s_isInside (d := d + 10) (f := f1) (g := g) i1.oN (show p < 5 by omega)
      rw [i1.bn 2 (by decide)] at hin
      have hlt := s_isLet (d := d + 9) (f := f1) (g := g) i1.oN i1.oL (show p < 5 by omega)
      unfold ltX at hlt
      rw [i1.bl.1 5 (by decide), i1.bl.1 6 (by decide), i1.f0] at hlt
      have hin' : ur_call ur_G (d + 11) 42 [.ref 33, .int (nI p)] (s, f1, g, R) = some (ur_b (inV V p), (s, f1, g, R)) := hin
      have hlt' : ur_call ur_G (d + 11) 50 [.ref 33, .ref L, .int (nI p)] (s, f1, g, R) = some (ur_b (ltV V l p), (s, f1, g, R)) := hlt
      have es : sB (fiV V l) (p + 1) = sB (fiV V l) p ||| (bif fiV V l p then (1 : Int32) <<< (nI p &&& 31) else 0) := rfl
      cases hf : fiV V l p with
      | false =>
        obtain ⟨f2, row, st, b1, b2⟩ := ih (p + 1) f1 (by omega) i1 (fun q i h1 h2 h3 => by
          by_cases e : q = p
          · rw [e, hf] at h2; cases h2
          · exact i2 q i (by omega) h2 h3) i3
        refine ⟨f2, row, st, e_X3_settle_28 _ _ _ _ _ _ _ _ _ ?_, b2⟩
        rw [es, hf, cond_false, i_or0] at b1
        simp only [i1.oL.I, Option.bind_some, i1.ep, d_le (show P < 2 ^ 31 by omega) (show p < 2 ^ 31 by omega), decide_eq_false (show ¬ P ≤ p by omega), cond_false, hin', hlt', ub_n0, ub_0, nI_1]
        unfold fiV at hf
        cases h1 : inV V p with
        | true => exact b1
        | false =>
          rw [h1, Bool.not_false, Bool.true_and] at hf
          rw [hf]
          exact b1
      | true =>
        -- his stays
        have sts := lp (n := 5) (Fn := fun i (f' : Nat → Nat → Int32) => ur_at ur_G (d + 11) 33 (68, [some (.ref 50), some (.ref L), some (.ref 33), some (.int (nI j)), some (.int (nI k)), some (.int (sB (fiV V l) (p + 1))), some (.int n0), some (.int (nI p)), some (.int (nI i))], [], (s, f', g, R)))
          (I := fun i f' => cX s R f' 33 L l V N P ∧ (∀ q o, (q < p ∧ o < 5 ∨ q = p ∧ o < i) → fiV V l q = true → f' 53 (q * 5 + o) = nI (T q o)) ∧ eqT SX f f')
          (Q := fun r => ∃ f' row st, r = (0, (s, f', g, R)) ∧ st.1 = 2147483647 ∧ f' 50 3 = nI (cN (sB (fiV V l) P) 5) ∧ f' 50 4 = nI (qB T (cN (sB (fiV V l) P) 5) (sB (fiV V l) P) 0 k 0 row st).1 ∧ (∀ i, i < cN (sB (fiV V l) P) 5 → f' 52 i = (qB T (cN (sB (fiV V l) P) 5) (sB (fiV V l) P) 0 k 0 row st).2 i) ∧ eqT SX f f') ?_ ?_ f1 ⟨i1, fun q o h1 h2 => i2 q o (by omega) h2 (by omega), i3⟩
        · obtain ⟨r, b1, f2, row, st, rfl, b2⟩ := sts
          refine ⟨f2, row, st, e_X3_settle_28 _ _ _ _ _ _ _ _ _ ?_, b2⟩
          unfold fiV at hf
          rw [Bool.and_eq_true] at hf
          have h1 : inV V p = false := by
            have := hf.1
            cases h : inV V p with
            | false => rfl
            | true => rw [h] at this; cases this
          rw [es, show fiV V l p = true by unfold fiV; rw [h1, hf.2]; rfl, cond_true] at b1
          simp only [i1.oL.I, Option.bind_some, i1.ep, d_le (show P < 2 ^ 31 by omega) (show p < 2 ^ 31 by omega), decide_eq_false (show ¬ P ≤ p by omega), cond_false, hin', hlt', h1, hf.2, ub_n0, ub_0, Bool.not_true]
          exact b1
        · intro i f2 hi ⟨j1, j2, j3⟩
          obtain ⟨f3, c1, c2⟩ := c_stayOf (d := d + 7) (g := g) (r := n0 + nI i) j1 hE (show p < P by omega) hj
          rw [hT p i (by omega) hi] at c1
          have t3 : eqT (fun a k => TL L a k ∨ a = 53) f2 (ur_u f3 53 (p * 5 + i) (nI (T p i))) := (c2.mono (fun a k z => Or.inl z)).u (Or.inr rfl)
          refine ⟨ur_u f3 53 (p * 5 + i) (nI (T p i)), ⟨j1.fr t3 (j1.bn.fr t3 (fun i k hi z => by unfold TL at z; omega)) (fun a k h1 h2 z => ?_), fun q o h1 h2 => ?_, j3.trans (t3.mono (fun a k z => ?_))⟩, fun r hr => e_X3_settle_68 _ _ _ _ _ _ _ _ _ _ ?_⟩
          · rcases z with z | z
            · exact z
            · omega
          · by_cases e : q = p ∧ o = i
            · rw [e.1, e.2, ur_us]
            · rw [ur_un (by omega), c2 _ _ (fun z => by unfold TL at z; omega)]
              exact j2 q o (by omega) h2
          · rcases z with z | z
            · exact TL_SX hL a k z
            · unfold SX; omega
          · have n5 : decide ((5 : Int32) ≤ nI i) = false := decide_eq_false (nI_ge (b := 5) hi (by decide))
            have x1 : nI p * (5 : Int32) + nI i = nI (p * 5 + i) := by rw [show (5 : Int32) = nI 5 from rfl, pk_mul, nI_add]
            have w3 : ∀ v, ur_wI (s, f3, g, R) (50 + 3) 0 (nI (p * 5 + i)) v = some (s, ur_u f3 53 (p * 5 + i) v, g, R) := fun v => hO.w3 (show p * 5 + i < 25 by omega)
            rw [n5, cond_false]
            simp only [hO.r2, Option.bind_some, c1, x1, w3, nI_1]
            exact hr
        · intro f2 ⟨j1, j2, j3⟩
          obtain ⟨f3, row, st, b1, b2⟩ := ih (p + 1) f2 (by omega) j1 (fun q i h1 h2 h3 => j2 q i (by omega) h2) j3
          refine ⟨(0, (s, f3, g, R)), e_X3_settle_68 _ _ _ _ _ _ _ _ _ _ ?_, f3, row, st, rfl, b2⟩
          rw [show decide ((5 : Int32) ≤ nI 5) = true from by decide, cond_true, nI_1]
          exact b1
  obtain ⟨f1, row, st, b1, b2⟩ := main P 0 f rfl hc (fun q i hq => absurd hq (by omega)) eqT.refl
  refine ⟨f1, row, st, ur_cl hO.rcv rfl (e_X3_settle_0 _ _ _ _ _ _ ?_), b2⟩
  have hh := s_hostOf (d := d + 9) (g := g) (r := nI j) hc.oN hc.oL hc.ep hc.p5
  rw [hc.bn 1 (by decide)] at hh
  simp only [hc.oN.I, Option.bind_some, hc.f0, hh]
  have e0 : sB (fiV V l) 0 = 0 := rfl
  rw [e0] at b1
  unfold freeT at hn0
  by_cases hq : fsP (fun q => decide (V 1 q = nI j)) P 0 = -1
  · rw [decide_eq_true hq, cond_true] at hn0
    rw [decide_eq_false (fun z => z hq), cond_false, ← hn0]
    exact b1
  · rw [decide_eq_false hq, cond_false] at hn0
    rw [decide_eq_true hq, cond_true, ← hn0]
    exact b1
-- the reference
def rcQ (f : Nat → Nat → Int32) (b z : Nat) (st : Nat × (Nat → Int32)) : Prop := f b 53 = nI st.1 ∧ st.1 < 2147483647 ∧ ∀ i, i < z → f (b + 40) i = st.2 i
def nrQ (f : Nat → Nat → Int32) (b : Nat) (st : Nat × (Nat → Int32)) : Prop := f b 53 = -1 ∧ st.1 = 2147483647
def TQm (b : Nat) : Nat → Nat → Prop := fun a k => a = b + 39 ∨ a = b + 40 ∨ (a = b ∧ k = 53) ∨ (b + 15 ≤ a ∧ a < b + 25)
theorem TQm_SR : ∀ a k, TQm b a k → SR b a k := fun a k z => by unfold TQm at z; unfold SR; omega
theorem m_rows (h : cM s R f b l V N P E) (hj : j < N) (hz : z ≤ 5) (hT : ∀ p q, p < P → q < 5 → syV E l V p j (n0 + nI q) = nI (T p q)) (hT3 : ∀ p q, T p q ≤ 30) : ∀ (n : Nat) (left : Int32) (place clock sum : Nat) (row : Nat → Int32) (st : Nat × (Nat → Int32)) (f1 : Nat → Nat → Int32), eqT (TQm b) f f1 → cN left 5 = n → (∀ i, P ≤ i → i < 32 → bt left i = false) → place + n = z → clock + 30 * n ≤ 300 → sum + 300 * n ≤ 3000 → (rcQ f1 b z st ∨ nrQ f1 b st) → (∀ i, i < place → f1 (b + 39) i = row i) → ∃ f', ur_call ur_G (d + n + 5) 232 [.ref b, .int (nI j), .int left, .int (nI place), .int (nI clock), .int (n0 + nI place), .int (nI sum)] (s, f1, g, R) = some (0, (s, f', g, R)) ∧ rcQ f' b z (qB T n left place clock sum row st) ∧ (∀ i, i < place → f' (b + 39) i = f1 (b + 39) i) ∧ eqT (TQm b) f f' := by
  have hM := h.oM
  have h5 := h.p5
  have a2 : ∀ f', ur_aI (s, f', g, R) (b + 2) 0 2 = some (f' (b + 2) 2) := fun f' => hM.a2 (show 2 < 6 by decide)
  intro n
  induction n with
  | zero =>
    intro left place clock sum row st f1 t1 hc hlb hp hcl hsm hrc hrow
    rw [show d + 0 + 5 = d + 4 + 1 by omega]
    have hpz : place = z := by omega
    subst hpz
    have hl0 : left = 0 := b_ext fun i hi => by
      rw [b_0]
      rcases Nat.lt_or_ge i 5 with q | q
      · exact cN_0 5 hc i q
      · exact hlb i (by omega) hi
    subst hl0
    -- a row is kept
    have keep : ∃ f', ur_at ur_G (d + 4) 232 (30, [some (.ref b), none, none, none, none, none, none, some (.int 0), none], [], (s, ur_u f1 b 53 (nI sum), g, R)) = some (0, (s, f', g, R)) ∧ rcQ f' b place (sum, row) ∧ (∀ i, i < place → f' (b + 39) i = f1 (b + 39) i) ∧ eqT (TQm b) f f' := by
      have main := lp (n := 5) (Fn := fun i (f' : Nat → Nat → Int32) => ur_at ur_G (d + 4) 232 (30, [some (.ref b), none, none, none, none, none, none, some (.int (nI i)), none], [], (s, f', g, R)))
        (I := fun i f' => (∀ o, o < i → f' (b + 40) o = f1 (b + 39) o) ∧ f' (b + 39) = f1 (b + 39) ∧ f' b 53 = nI sum ∧ eqT (TQm b) f f')
        (Q := fun r => r.1 = 0 ∧ ∃ f', r.2 = (s, f', g, R) ∧ (∀ o, o < 5 → f' (b + 40) o = f1 (b + 39) o) ∧ f' (b + 39) = f1 (b + 39) ∧ f' b 53 = nI sum ∧ eqT (TQm b) f f') ?_ ?_ (ur_u f1 b 53 (nI sum)) ⟨fun o ho => absurd ho (by omega), ur_ua (by omega), ur_us, t1.u (by unfold TQm; omega)⟩
      · obtain ⟨⟨v', q⟩, m1, m2, f', m3, m4, m5, m6, m7⟩ := main
        dsimp only at m2 m3
        subst m2 m3
        exact ⟨f', m1, ⟨m6, by show sum < 2147483647; omega, fun i hi => by rw [m4 i (by omega), hrow i hi]⟩, fun i _ => by rw [m5], m7⟩
      · intro i f2 hi ⟨i1, i2, i3, i4⟩
        refine ⟨ur_u f2 (b + 40) i (f2 (b + 39) i), ⟨fun o ho => ?_, by rw [ur_ua (by omega), i2], by rw [ur_ua (by omega), i3], i4.u (by unfold TQm; omega)⟩, fun r hr => e_X10_queues_30 _ _ _ ?_⟩
        · by_cases e : o = i
          · rw [e, ur_us, i2]
          · rw [ur_un e, i1 o (by omega)]
        · rw [show (5 : Int32) = nI 5 from rfl, d_le (by decide) (by omega), decide_eq_false (show ¬ 5 ≤ i by omega), cond_false]
          simp only [hM.r52, hM.r51, Option.bind_some, hM.a39 (show i < 5 by omega), hM.w40 (show i < 5 by omega), nI_1]
          exact hr
      · intro f2 hI
        exact ⟨(0, (s, f2, g, R)), e_X10_queues_30 _ _ _ rfl, rfl, f2, rfl, hI⟩
    have hq : qB T 0 0 place clock sum row st = bif decide (sum < st.1) then (sum, row) else st := rfl
    rw [hq]
    rcases hrc with ⟨r1, r2, r3⟩ | ⟨r1, r2⟩
    · by_cases hlt : sum < st.1
      · rw [decide_eq_true hlt]
        obtain ⟨f', k1, k2, k3, k4⟩ := keep
        refine ⟨f', ur_cl hM.rcv rfl (e_X10_queues_0 _ _ _ _ _ _ _ _ ?_), k2, k3, k4⟩
        simp only [hM.I, hM.pI, Option.bind_some, r1, decide_eq_false (nI_pos (show st.1 < 2 ^ 31 by omega)), cond_false, d_lt (show sum < 2 ^ 31 by omega) (show st.1 < 2 ^ 31 by omega), decide_eq_true hlt, cond_true]
        exact k1
      · rw [decide_eq_false hlt]
        refine ⟨f1, ur_cl hM.rcv rfl (e_X10_queues_0 _ _ _ _ _ _ _ _ ?_), ⟨r1, r2, r3⟩, fun _ _ => rfl, t1⟩
        simp only [hM.I, Option.bind_some, r1, decide_eq_false (nI_pos (show st.1 < 2 ^ 31 by omega)), cond_false, d_lt (show sum < 2 ^ 31 by omega) (show st.1 < 2 ^ 31 by omega), decide_eq_false hlt]
    · rw [decide_eq_true (show sum < st.1 by omega)]
      obtain ⟨f', k1, k2, k3, k4⟩ := keep
      refine ⟨f', ur_cl hM.rcv rfl (e_X10_queues_0 _ _ _ _ _ _ _ _ ?_), k2, k3, k4⟩
      simp only [hM.I, hM.pI, Option.bind_some, r1]
      exact k1
  | succ n ih =>
    intro left place clock sum row st f1 t1 hc hlb hp hcl hsm hrc hrow
    rw [show d + (n + 1) + 5 = d + n + 5 + 1 by omega]
    have hl0 : decide (left ≠ 0) = true := decide_eq_true (fun e => by
      rw [e] at hc
      have : ∀ k, cN 0 k = 0 := fun k => by
        induction k with
        | zero => rfl
        | succ k ihk => show cN 0 k + (bif bt 0 k then 1 else 0) = 0; rw [ihk, b_0]; rfl
      rw [this] at hc
      omega)
    -- the loop
    have loop : ∃ f', ur_at ur_G (d + n + 5) 232 (60, [some (.ref b), some (.int (nI j)), some (.int left), some (.int (nI place)), some (.int (nI clock)), some (.int (n0 + nI place)), some (.int (nI sum)), some (.int 0), none], [], (s, f1, g, R)) = some (0, (s, f', g, R)) ∧ rcQ f' b z (qB T (n + 1) left place clock sum row st) ∧ (∀ i, i < place → f' (b + 39) i = f1 (b + 39) i) ∧ eqT (TQm b) f f' := by
      have main := lp (n := P) (Fn := fun p (f' : Nat → Nat → Int32) => ur_at ur_G (d + n + 5) 232 (60, [some (.ref b), some (.int (nI j)), some (.int left), some (.int (nI place)), some (.int (nI clock)), some (.int (n0 + nI place)), some (.int (nI sum)), some (.int (nI p)), none], [], (s, f', g, R)))
        (I := fun p f' => (rcQ f' b z (itr (qS T n left place clock sum row) p st) ∨ (nrQ f' b (itr (qS T n left place clock sum row) p st) ∧ ∀ i, i < p → bt left i = false)) ∧ (∀ i, i < place → f' (b + 39) i = f1 (b + 39) i) ∧ eqT (TQm b) f f')
        (Q := fun r => r.1 = 0 ∧ ∃ f', r.2 = (s, f', g, R) ∧ rcQ f' b z (itr (qS T n left place clock sum row) P st) ∧ (∀ i, i < place → f' (b + 39) i = f1 (b + 39) i) ∧ eqT (TQm b) f f') ?_ ?_ f1 ⟨?_, fun _ _ => rfl, t1⟩
      · obtain ⟨⟨v', q⟩, m1, m2, f', m3, m4⟩ := main
        dsimp only at m2 m3
        subst m2 m3
        have e5 : qB T (n + 1) left place clock sum row st = itr (qS T n left place clock sum row) P st := by
          rw [qB_s]
          refine itr_id 5 h5 (fun k y h1 h2 => ?_)
          unfold qS
          rw [hlb k h1 (by omega)]
          rfl
        rw [e5]
        exact ⟨f', m1, m4⟩
      · intro p f2 hpP ⟨i1, i2, i3⟩
        have es : itr (qS T n left place clock sum row) (p + 1) st = qS T n left place clock sum row p (itr (qS T n left place clock sum row) p st) := rfl
        rw [es]
        generalize itr (qS T n left place clock sum row) p st = st1 at i1
        have hP2 : f2 (b + 2) 2 = nI P := by rw [i3.row (fun k z => by unfold TQm at z; omega), h.ep]
        unfold qS
        cases hb : bt left p with
        | false =>
          refine ⟨f2, ⟨?_, i2, i3⟩, fun r hr => e_X10_queues_60 _ _ _ _ _ _ _ _ _ ?_⟩
          · rcases i1 with i1 | ⟨i1, i1'⟩
            · exact Or.inl i1
            · refine Or.inr ⟨i1, fun i hi => ?_⟩
              by_cases e : i = p
              · rw [e]; exact hb
              · exact i1' i (by omega)
          · simp only [hM.r10, Option.bind_some, a2, hP2, d_le (show P < 2 ^ 31 by omega) (show p < 2 ^ 31 by omega), decide_eq_false (show ¬ P ≤ p by omega), cond_false, b_bit (show p < 32 by omega), hb, ub_n0, nI_1]
            exact hr
        | true =>
          have hcn := rmB_cN hb 5 (by decide) (show p < 5 by omega)
          have ht := hT3 p place
          obtain ⟨f3, hf3⟩ : ∃ f3, f3 = ur_u f2 (b + 39) place (nI p) := ⟨_, rfl⟩
          have t3 : eqT (TQm b) f f3 := by rw [hf3]; exact i3.u (by unfold TQm; omega)
          have h3 : cM s R f3 b l V N P E := h.sr (t3.mono TQm_SR)
          obtain ⟨f4, c1, c2, c3⟩ := m_stayOf (d := d + n + 1) (g := g) (r := n0 + nI place) h3 hpP hj
          rw [hT p place hpP (by omega)] at c1
          have t4 : eqT (TQm b) f f4 := t3.trans (c3.mono (fun a k z => by unfold TV at z; unfold TQm; omega))
          have o4 : ∀ a k, ¬ (b + 15 ≤ a ∧ a < b + 25) → f4 a k = f3 a k := fun a k q => c3 a k (fun z => by unfold TV at z; omega)
          have hrc4 : rcQ f4 b z st1 ∨ nrQ f4 b st1 := by
            rcases i1 with ⟨r1, r2, r3⟩ | ⟨⟨r1, r2⟩, -⟩
            · refine Or.inl ⟨by rw [o4 _ _ (by omega), hf3, ur_ua (by omega), r1], r2, fun i hi => by rw [o4 _ _ (by omega), hf3, ur_ua (by omega), r3 i hi]⟩
            · exact Or.inr ⟨by rw [o4 _ _ (by omega), hf3, ur_ua (by omega), r1], r2⟩
          obtain ⟨f5, d1, d2, d3, d4⟩ := ih (rmB left p) (place + 1) (clock + T p place) (sum + (clock + T p place)) (up row place (nI p)) st1 f4 t4 (by omega) (fun i h1 h2 => by rw [rmB_bt (by omega) h2, hlb i h1 h2]; rfl) (by omega) (by omega) (by omega) hrc4 (fun i hi => by
            rw [o4 _ _ (by omega)]
            by_cases q : i = place
            · rw [q, hf3, ur_us, up_s]
            · rw [hf3, ur_un q, up_n q, i2 i (by omega), hrow i (by omega)])
          refine ⟨f5, ⟨Or.inl d2, fun i hi => ?_, d4⟩, fun r hr => e_X10_queues_60 _ _ _ _ _ _ _ _ _ ?_⟩
          · rw [d3 i (by omega), o4 _ _ (by omega), hf3, ur_un (by omega), i2 i hi]
          · have w1 : ur_wI (s, f2, g, R) (b + 39) 0 (nI place) (nI p) = some (s, f3, g, R) := by rw [hf3]; exact hM.w39 (show place < 5 by omega)
            have en : n0 + nI place + 1 = n0 + nI (place + 1) := by rw [Int32.add_assoc, nI_1]
            simp only [hM.r10, Option.bind_some, a2, hP2, d_le (show P < 2 ^ 31 by omega) (show p < 2 ^ 31 by omega), decide_eq_false (show ¬ P ≤ p by omega), cond_false, b_bit (show p < 32 by omega), hb, ub_n0, cond_true, hM.r51, w1, c1, nI_1, nI_add, en]
            rw [show left &&& (((1 : Int32) <<< (nI p &&& 31)) ^^^ (-1)) = rmB left p from rfl, d1, Option.bind_some]
            exact hr
      · intro f2 ⟨i1, i2, i3⟩
        have hP2 : f2 (b + 2) 2 = nI P := by rw [i3.row (fun k z => by unfold TQm at z; omega), h.ep]
        refine ⟨(0, (s, f2, g, R)), e_X10_queues_60 _ _ _ _ _ _ _ _ _ ?_, rfl, f2, rfl, ?_, i2, i3⟩
        · simp only [hM.r10, Option.bind_some, a2, hP2, d_le (show P < 2 ^ 31 by omega) (show P < 2 ^ 31 by omega), Nat.le_refl, decide_true, cond_true]
        · rcases i1 with i1 | ⟨-, i1'⟩
          · exact i1
          · exfalso
            have : cN left 5 = 0 := by
              have z0 : ∀ k, k ≤ 5 → cN left k = 0 := fun k => by
                induction k with
                | zero => intro _; rfl
                | succ k ihk =>
                  intro hk
                  show cN left k + (bif bt left k then 1 else 0) = 0
                  rw [ihk (by omega)]
                  rcases Nat.lt_or_ge k P with q | q
                  · rw [i1' k q]; rfl
                  · rw [hlb k q (by omega)]; rfl
              exact z0 5 (by decide)
            omega
      · rcases hrc with r | r
        · exact Or.inl r
        · exact Or.inr ⟨r, fun i hi => absurd hi (by omega)⟩
    rcases hrc with ⟨r1, r2, r3⟩ | ⟨r1, r2⟩
    · by_cases hlt : sum < st.1
      · obtain ⟨f', k1, k2, k3, k4⟩ := loop
        refine ⟨f', ur_cl hM.rcv rfl (e_X10_queues_0 _ _ _ _ _ _ _ _ ?_), k2, k3, k4⟩
        simp only [hM.I, Option.bind_some, r1, decide_eq_false (nI_pos (show st.1 < 2 ^ 31 by omega)), cond_false, d_lt (show sum < 2 ^ 31 by omega) (show st.1 < 2 ^ 31 by omega), decide_eq_true hlt, cond_true, hl0]
        exact k1
      · rw [qB_prune _ _ _ _ _ _ _ (by omega)]
        refine ⟨f1, ur_cl hM.rcv rfl (e_X10_queues_0 _ _ _ _ _ _ _ _ ?_), ⟨r1, r2, r3⟩, fun _ _ => rfl, t1⟩
        simp only [hM.I, Option.bind_some, r1, decide_eq_false (nI_pos (show st.1 < 2 ^ 31 by omega)), cond_false, d_lt (show sum < 2 ^ 31 by omega) (show st.1 < 2 ^ 31 by omega), decide_eq_false hlt]
    · obtain ⟨f', k1, k2, k3, k4⟩ := loop
      refine ⟨f', ur_cl hM.rcv rfl (e_X10_queues_0 _ _ _ _ _ _ _ _ ?_), k2, k3, k4⟩
      simp only [hM.I, Option.bind_some, r1, show decide ((-1 : Int32) < 0) = true from by decide, hl0, cond_true]
      exact k1
end URQU

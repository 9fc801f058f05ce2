/-! BLOCKS and frames; the class's minutes -/
def eqT (T : Nat → Nat → Prop) (f f' : Nat → Nat → Int32) : Prop := ∀ a k, ¬ T a k → f' a k = f a k
def TN (n : Nat) : Nat → Nat → Prop := fun a _ => n ≤ a ∧ a < n + 6
def TL (L : Nat) : Nat → Nat → Prop := fun a k => (a = L + 8 ∧ k = 3) ∨ a = L + 10
def TS (b : Nat) : Nat → Nat → Prop := fun a _ => a = b + 33
abbrev blk (f : Nat → Nat → Int32) (n : Nat) : Nat → Nat → Int32 := fun i => f (n + i)
def bN (f : Nat → Nat → Int32) (n : Nat) (V : Nat → Nat → Int32) : Prop := ∀ i, i < 6 → f (n + i) = V i
/-- the land but for the law's scratch -/
def bL (f : Nat → Nat → Int32) (L : Nat) (l : Nat → Nat → Int32) : Prop := (∀ i, i < 8 → f (L + i) = l i) ∧ f (L + 8) 2 = l 8 2 ∧ f (L + 9) = l 9
def up (S : Nat → Int32) (k : Nat) (v : Int32) : Nat → Int32 := fun j => if j = k then v else S j
section URF
variable {f f' f'' V l : Nat → Nat → Int32} {T T' : Nat → Nat → Prop} {n a k i j L b : Nat} {v : Int32} {S : Nat → Int32}
theorem eqT.refl : eqT T f f := fun _ _ _ => rfl
theorem eqT.trans (h : eqT T f f') (h' : eqT T f' f'') : eqT T f f'' := fun a k z => (h' a k z).trans (h a k z)
theorem eqT.mono (h : eqT T f f') (hT : ∀ a k, T a k → T' a k) : eqT T' f f' := fun a k z => h a k (fun y => z (hT a k y))
theorem eqT.row (h : eqT T f f') (hT : ∀ k, ¬ T a k) : f' a = f a := funext (fun k => h a k (hT k))
theorem eqT_u (h : T a k) : eqT T f (ur_u f a k v) := fun a' k' z => by
  unfold ur_u
  by_cases h1 : a' = a
  · by_cases h2 : k' = k
    · subst h1; subst h2; exact absurd h z
    · rw [if_pos h1, if_neg h2, h1]
  · rw [if_neg h1]
theorem eqT.u (h : eqT T f f') (hT : T a k) : eqT T f (ur_u f' a k v) := h.trans (eqT_u hT)
theorem eqT_row (h : ∀ k, T a k) : eqT T f (ur_row f a S) := fun a' k' z => by
  unfold ur_row
  by_cases h1 : a' = a
  · subst h1; exact absurd (h k') z
  · rw [if_neg h1]
theorem eqT.rw' (h : eqT T f f') (hT : ∀ k, T a k) : eqT T f (ur_row f' a S) := h.trans (eqT_row hT)
theorem ur_us : ur_u f a k v a k = v := by unfold ur_u; rw [if_pos rfl, if_pos rfl]
theorem ur_un (h : j ≠ k) : ur_u f a k v a j = f a j := by unfold ur_u; rw [if_pos rfl, if_neg h]
theorem ur_uo (h : (i == j) = false) : ur_u f (n + j) k v (n + i) = f (n + i) := by
  funext x
  unfold ur_u
  rw [if_neg]
  intro z
  have : i = j := by omega
  rw [this] at h
  simp at h
theorem ur_uoz (h : (j == 0) = false) : ur_u f (n + j) k v n = f n := by
  funext x
  unfold ur_u
  rw [if_neg]
  intro z
  have : j = 0 := by omega
  rw [this] at h
  simp at h
theorem ur_uoy (h : (j == 0) = false) : ur_u f n k v (n + j) = f (n + j) := by
  funext x
  unfold ur_u
  rw [if_neg]
  intro z
  have : j = 0 := by omega
  rw [this] at h
  simp at h
theorem ur_ua (h : i ≠ a) : ur_u f a k v i = f i := by
  funext x
  unfold ur_u
  rw [if_neg h]
theorem ur_uS (h : f a = S) : ur_u f a k v a = up S k v := by
  funext x
  unfold ur_u up
  rw [if_pos rfl, h]
theorem ur_rs : ur_row f a S a = S := by unfold ur_row; rw [if_pos rfl]
theorem ur_ra (h : i ≠ a) : ur_row f a S i = f i := by unfold ur_row; rw [if_neg h]
theorem up_s : up S k v k = v := by unfold up; rw [if_pos rfl]
theorem up_n (h : j ≠ k) : up S k v j = S j := by unfold up; rw [if_neg h]
theorem bN_blk : bN f n (blk f n) := fun _ _ => rfl
theorem bN.u (h : bN f n V) (i0 k : Nat) (v : Int32) : bN (ur_u f (n + i0) k v) n (ur_u V i0 k v) := fun i hi => by
  funext x
  unfold ur_u
  by_cases h1 : i = i0
  · subst h1
    rw [if_pos rfl, if_pos rfl, h i hi]
  · rw [if_neg h1, if_neg (by omega), h i hi]
theorem bN.r (h : bN f n V) (i0 : Nat) (S : Nat → Int32) : bN (ur_row f (n + i0) S) n (ur_row V i0 S) := fun i hi => by
  unfold ur_row
  by_cases h1 : i = i0
  · subst h1
    rw [if_pos rfl, if_pos rfl]
  · rw [if_neg h1, if_neg (by omega), h i hi]
theorem bN.fr (h : bN f n V) (hT : eqT T f f') (hd : ∀ i k, i < 6 → ¬ T (n + i) k) : bN f' n V := fun i hi => (hT.row (fun k => hd i k hi)).trans (h i hi)
theorem bL.fr (h : bL f L l) (hT : eqT T f f') (hd : ∀ a k, L ≤ a → a < L + 11 → T a k → TL L a k) : bL f' L l := by
  refine ⟨fun i hi => (hT.row (fun k z => ?_)).trans (h.1 i hi), (hT (L + 8) 2 (fun z => ?_)).trans h.2.1, (hT.row (fun k z => ?_)).trans h.2.2⟩
  · have := hd _ k (by omega) (by omega) z
    unfold TL at this
    omega
  · have := hd _ 2 (by omega) (by omega) z
    unfold TL at this
    omega
  · have := hd _ k (by omega) (by omega) z
    unfold TL at this
    omega
end URF
/-- a loop whose memory is not written down -/
theorem lp {σ : Type} {Fn : Nat → σ → Option ur_V} {I : Nat → σ → Prop} {Q : ur_V → Prop} {n : Nat} (hstep : ∀ j x, j < n → I j x → ∃ x', I (j + 1) x' ∧ ∀ r, Fn (j + 1) x' = some r → Fn j x = some r) (hend : ∀ x, I n x → ∃ r, Fn n x = some r ∧ Q r) : ∀ x, I 0 x → ∃ r, Fn 0 x = some r ∧ Q r := by
  have key : ∀ (k j : Nat), k + j = n → ∀ x, I j x → ∃ r, Fn j x = some r ∧ Q r := by
    intro k
    induction k with
    | zero =>
      intro j hj x hx
      have : j = n := by omega
      subst this
      exact hend x hx
    | succ k ih =>
      intro j hj x hx
      obtain ⟨x', h1, h2⟩ := hstep j x (by omega) hx
      obtain ⟨r, h3, h4⟩ := ih (j + 1) (by omega) x' h1
      exact ⟨r, h2 r h3, h4⟩
  exact key n 0 (Nat.add_zero n)
def ix (x : Int32) : Nat := x.toNatClampNeg
theorem ix_nI {k : Nat} (hk : k < 2 ^ 31) : ix (nI k) = k := nI_clamp hk
/-- where one comes out -/
def exV (D B : Int32) (q : Nat) : Int32 := bif bt B q then fsB (D &&& (B ^^^ (-1))) 8 0 else nI q
def cm1 (V : Nat → Nat → Int32) (p : Nat) : Nat → Nat → Int32 := ur_u (ur_u V 2 p (V 2 p - 1)) 5 p (V 5 p + 1)
def cmE (l V : Nat → Nat → Int32) (p : Nat) : Int32 := exV (l 3 (ix (V 1 p))) (V 0 6) (ix (V 3 p))
def cmV (l V : Nat → Nat → Int32) (p : Nat) : Bool × (Nat → Nat → Int32) :=
  bif decide (V 2 p - 1 ≤ 0) then (bif decide (cmE l V p = -1) then (false, cm1 V p) else (true, ur_u (ur_u (cm1 V p) 1 p (cmE l V p)) 2 p (-1))) else (false, cm1 V p)
def psV (l : Nat → Nat → Int32) (p : Nat) (x : Int32 × (Nat → Nat → Int32)) : Int32 × (Nat → Nat → Int32) :=
  bif decide (x.2 2 p ≤ 0) then x else (bif (cmV l x.2 p).1 then x.1 ||| ((1 : Int32) <<< (nI p &&& 31)) else x.1, (cmV l x.2 p).2)
theorem psV_eq (l : Nat → Nat → Int32) (p : Nat) (x : Int32 × (Nat → Nat → Int32)) : psV l p x = bif decide (x.2 2 p ≤ 0) then x else (bif (cmV l x.2 p).1 then x.1 ||| ((1 : Int32) <<< (nI p &&& 31)) else x.1, (cmV l x.2 p).2) := rfl
def pasF (x : Int32 × (Nat → Nat → Int32)) : Int32 × (Nat → Nat → Int32) := (x.1, ur_u (ur_u x.2 0 7 (x.2 0 7 + bc32 x.1)) 0 8 (x.2 0 8 + 1))
def pasV (l : Nat → Nat → Int32) (P : Nat) (V : Nat → Nat → Int32) : Int32 × (Nat → Nat → Int32) := pasF (itr (psV l) P (0, V))
theorem psV_col {l : Nat → Nat → Int32} {p : Nat} {x : Int32 × (Nat → Nat → Int32)} {i k : Nat} (hi : i ≠ 0) (hk : k ≠ p) : (psV l p x).2 i k = x.2 i k := by
  have u : ∀ (W : Nat → Nat → Int32) (a : Nat) (v : Int32), ur_u W a p v i k = W i k := fun W a v => by
    unfold ur_u
    by_cases h : i = a
    · rw [if_pos h, if_neg hk, h]
    · rw [if_neg h]
  unfold psV
  cases decide (x.2 2 p ≤ 0) with
  | true => rfl
  | false =>
    simp only [cond_false]
    unfold cmV cm1
    cases decide (x.2 2 p - 1 ≤ 0) with
    | true =>
      cases decide (cmE l x.2 p = -1) with
      | true => simp only [cond_true, u]
      | false => simp only [cond_true, cond_false, u]
    | false => simp only [cond_false, u]
theorem psV_0 {l : Nat → Nat → Int32} {p : Nat} {x : Int32 × (Nat → Nat → Int32)} : (psV l p x).2 0 = x.2 0 := by
  have u : ∀ (W : Nat → Nat → Int32) (a : Nat) (v : Int32), a ≠ 0 → ur_u W a p v 0 = W 0 := fun W a v h => ur_ua (fun z => h z.symm)
  unfold psV
  cases decide (x.2 2 p ≤ 0) with
  | true => rfl
  | false =>
    simp only [cond_false]
    unfold cmV cm1
    cases decide (x.2 2 p - 1 ≤ 0) with
    | true =>
      cases decide (cmE l x.2 p = -1) with
      | true => simp [u]
      | false => simp [u]
    | false => simp [u]
section URX1
variable {s : List (Nat ⊕ (Nat × Nat))} {f l V : Nat → Nat → Int32} {g : Nat → Nat → Int64} {R : Nat → Nat → Option Nat} {n L b d j p P N w q : Nat} {r x y : Int32}
theorem s_exitOf (hN : oNight s R n) (hL : oLand s R L) (hp : p < 5) (hw : f (n + 1) p = nI w) (hw8 : w < 8) (hq : f (n + 3) p = nI q) (hq8 : q < 8) (h8 : sm8 (f (L + 3) w)) : ur_call ur_G (d + 2) 60 [.ref n, .ref L, .int (nI p)] (s, f, g, R) = some (exV (f (L + 3) w) (f n 6) q, (s, f, g, R)) := by
  refine ur_cl hN.rcv rfl (e_X5_exitOf_0 _ _ _ _ ?_)
  simp only [hN.I, hN.r2, hN.a3 hp, Option.bind_some, hq, s_bit _ (show q < 32 by omega), ub_n0, hL.r2, hN.r0, hN.a1 hp, hw, hL.a3 hw8, u_nz, exV]
  cases bt (f n 6) q with
  | false => rfl
  | true =>
    simp only [cond_true]
    by_cases h0 : f (L + 3) w &&& (f n 6 ^^^ (-1)) = 0
    · rw [h0]; rfl
    · rw [decide_eq_true (show f (L + 3) w &&& (f n 6 ^^^ (-1)) ≠ 0 from h0), cond_true, nz_sm (sm8_and h8) h0]
theorem s_comesOut (hN : oNight s R n) (hL : oLand s R L) (hb : bN f n V) (hl : bL f L l) (hd : L + 11 ≤ n) (hp : p < 5) (hw : V 1 p = nI w) (hw8 : w < 8) (hq : V 3 p = nI q) (hq8 : q < 8) (h8 : sm8 (l 3 w)) : ∃ f', ur_call ur_G (d + 3) 59 [.ref n, .ref L, .int (nI p)] (s, f, g, R) = some (ur_b (cmV l V p).1, (s, f', g, R)) ∧ bN f' n (cmV l V p).2 ∧ eqT (TN n) f f' := by
  have b2 : bN (ur_u (ur_u f (n + 2) p (f (n + 2) p - 1)) (n + 5) p (f (n + 5) p + 1)) n (cm1 V p) := by
    rw [hb 2 (by decide), hb 5 (by decide)]
    exact (hb.u 2 p _).u 5 p _
  have t2 : eqT (TN n) f (ur_u (ur_u f (n + 2) p (f (n + 2) p - 1)) (n + 5) p (f (n + 5) p + 1)) := (eqT_u (by unfold TN; omega)).u (by unfold TN; omega)
  have hL3 : ur_u (ur_u f (n + 2) p (f (n + 2) p - 1)) (n + 5) p (f (n + 5) p + 1) (L + 3) = l 3 := by
    rw [ur_ua (by omega), ur_ua (by omega), hl.1 3 (by decide)]
  have e1 : (ur_u (ur_u f (n + 2) p (f (n + 2) p - 1)) (n + 5) p (f (n + 5) p + 1)) (n + 1) p = nI w := by rw [b2 1 (by decide)]; exact hw
  have e3 : (ur_u (ur_u f (n + 2) p (f (n + 2) p - 1)) (n + 5) p (f (n + 5) p + 1)) (n + 3) p = nI q := by rw [b2 3 (by decide)]; exact hq
  have e6 : (ur_u (ur_u f (n + 2) p (f (n + 2) p - 1)) (n + 5) p (f (n + 5) p + 1)) n 6 = V 0 6 := by rw [show n = n + 0 from rfl, b2 0 (by decide)]; rfl
  have ex := s_exitOf (d := d) (g := g) hN hL hp e1 hw8 e3 hq8 (by rw [hL3]; exact h8)
  rw [hL3, e6] at ex
  have eE : cmE l V p = exV (l 3 w) (V 0 6) q := by unfold cmE; rw [hw, hq, ix_nI (by omega), ix_nI (by omega)]
  have h2 : f (n + 2) p = V 2 p := by rw [hb 2 (by decide)]
  have step : ∀ r, (bif decide (f (n + 2) p - 1 ≤ 0) then (bif decide (exV (l 3 w) (V 0 6) q ≠ -1) then some ((1 : Int32), ((s, ur_u (ur_u (ur_u (ur_u f (n + 2) p (f (n + 2) p - 1)) (n + 5) p (f (n + 5) p + 1)) (n + 1) p (exV (l 3 w) (V 0 6) q)) (n + 2) p (-1), g, R) : ur_M)) else some (0, (s, ur_u (ur_u f (n + 2) p (f (n + 2) p - 1)) (n + 5) p (f (n + 5) p + 1), g, R))) else some (0, (s, ur_u (ur_u f (n + 2) p (f (n + 2) p - 1)) (n + 5) p (f (n + 5) p + 1), g, R))) = some r → ur_call ur_G (d + 3) 59 [.ref n, .ref L, .int (nI p)] (s, f, g, R) = some r := by
    intro r hr
    refine ur_cl hN.rcv rfl (e_X5_comesOut_0 _ _ _ _ ?_)
    rw [← hr]
    simp only [hN.r1, hN.a2 hp, hN.w2 hp, hN.r4, hN.a5 hp, hN.w5 hp, Option.bind_some, ur_uo, Nat.reduceBEq, ur_us, ex, hN.r0, hN.w1 hp]
  rw [← eE, h2] at step
  unfold cmV
  cases h1 : decide (V 2 p - 1 ≤ 0) with
  | false => exact ⟨_, step _ (by rw [h1]; rfl), by rw [h2] at b2; exact b2, by rw [h2] at t2; exact t2⟩
  | true =>
    by_cases h3 : cmE l V p = -1
    · simp only [cond_true, decide_eq_true h3]
      exact ⟨_, step _ (by rw [h1, cond_true, decide_eq_false (fun z => z h3), cond_false]; rfl), by rw [h2] at b2; exact b2, by rw [h2] at t2; exact t2⟩
    · simp only [cond_true, decide_eq_false h3, cond_false]
      refine ⟨_, step _ (by rw [h1, cond_true, decide_eq_true h3, cond_true]; rfl), ?_, ?_⟩
      · rw [h2] at b2
        exact (b2.u 1 p _).u 2 p _
      · rw [h2] at t2
        exact (t2.u (by unfold TN; omega)).u (by unfold TN; omega)
/-- persons inside stand somewhere, and came from somewhere -/
def okV (l V : Nat → Nat → Int32) (P : Nat) : Prop := ∀ p, p < P → decide (V 2 p ≤ 0) = false → ∃ w q, w < 8 ∧ V 1 p = nI w ∧ q < 8 ∧ V 3 p = nI q ∧ sm8 (l 3 w)
theorem s_passMinute (hN : oNight s R n) (hL : oLand s R L) (hb : bN f n V) (hl : bL f L l) (hd : L + 11 ≤ n) (hP : l 0 12 = nI P) (hP5 : P ≤ 5) (hok : okV l V P) : ∃ f', ur_call ur_G (d + 4) 58 [.ref n, .ref L] (s, f, g, R) = some ((pasV l P V).1, (s, f', g, R)) ∧ bN f' n (pasV l P V).2 ∧ eqT (TN n) f f' := by
  have main := lp (n := P) (Fn := fun j (x : Int32 × (Nat → Nat → Int32)) => ur_at ur_G (d + 3) 58 (4, [some (.ref n), some (.ref L), some (.int x.1), some (.int (nI j))], [], (s, x.2, g, R)))
    (I := fun j x => x.1 = (itr (psV l) j (0, V)).1 ∧ bN x.2 n (itr (psV l) j (0, V)).2 ∧ eqT (TN n) f x.2 ∧ ∀ i k, i ≠ 0 → j ≤ k → (itr (psV l) j (0, V)).2 i k = V i k)
    (Q := fun r => r.1 = (pasV l P V).1 ∧ ∃ f', r.2 = (s, f', g, R) ∧ bN f' n (pasV l P V).2 ∧ eqT (TN n) f f') ?_ ?_ (0, f) ⟨rfl, hb, eqT.refl, fun _ _ _ _ => rfl⟩
  · obtain ⟨⟨v, m⟩, h1, h2, f', h3, h4, h5⟩ := main
    refine ⟨f', ur_cl hN.rcv rfl (e_X5_passMinute_0 _ _ _ ?_), h4, h5⟩
    dsimp only at h2 h3
    rw [← h2, ← h3]
    exact h1
  · rintro j ⟨o, f1⟩ hj ⟨i1, i2, i3, i4⟩
    dsimp only at i1 i2 i3
    have hl1 : bL f1 L l := hl.fr i3 (fun a k h1 h2 h3 => by unfold TN at h3; omega)
    have e12 : f1 L 12 = nI P := by rw [show L = L + 0 from rfl, hl1.1 0 (by decide), hP]
    have hst : itr (psV l) (j + 1) (0, V) = psV l j (itr (psV l) j (0, V)) := rfl
    have e2 : f1 (n + 2) j = V 2 j := by rw [i2 2 (by decide), i4 2 j (by decide) (Nat.le_refl j)]
    cases hm : decide (V 2 j ≤ 0) with
    | true =>
      have hps : psV l j (itr (psV l) j (0, V)) = itr (psV l) j (0, V) := by
        rw [psV_eq l j (itr (psV l) j (0, V)), i4 2 j (by decide) (Nat.le_refl j), hm, cond_true]
      refine ⟨(o, f1), ?_, fun r hr => ?_⟩
      · rw [hst, hps]
        exact ⟨i1, i2, i3, fun i k h1 h2 => i4 i k h1 (by omega)⟩
      · refine e_X5_passMinute_4 _ _ _ _ _ ?_
        simp only [hL.I, Option.bind_some, e12, d_le (show P < 2 ^ 31 by omega) (show j < 2 ^ 31 by omega), decide_eq_false (show ¬ P ≤ j by omega), cond_false, hN.r1, hN.a2 (show j < 5 by omega), e2, hm, cond_true, nI_1]
        exact hr
    | false =>
      obtain ⟨w, q, hw8, hw, hq8, hq, h8⟩ := hok j hj hm
      have f1w : (itr (psV l) j (0, V)).2 1 j = nI w := by rw [i4 1 j (by decide) (Nat.le_refl j), hw]
      have f1q : (itr (psV l) j (0, V)).2 3 j = nI q := by rw [i4 3 j (by decide) (Nat.le_refl j), hq]
      obtain ⟨f2, c1, c2, c3⟩ := s_comesOut (d := d) (g := g) hN hL i2 hl1 hd (show j < 5 by omega) f1w hw8 f1q hq8 h8
      have hps : psV l j (itr (psV l) j (0, V)) = (bif (cmV l (itr (psV l) j (0, V)).2 j).1 then (itr (psV l) j (0, V)).1 ||| ((1 : Int32) <<< (nI j &&& 31)) else (itr (psV l) j (0, V)).1, (cmV l (itr (psV l) j (0, V)).2 j).2) := by
        rw [psV_eq l j (itr (psV l) j (0, V)), i4 2 j (by decide) (Nat.le_refl j), hm, cond_false]
      refine ⟨(bif (cmV l (itr (psV l) j (0, V)).2 j).1 then o ||| ((1 : Int32) <<< (nI j &&& 31)) else o, f2), ?_, fun r hr => ?_⟩
      · refine ⟨by rw [hst, hps, i1], by rw [hst, hps]; exact c2, i3.trans c3, fun i k h1 h2 => ?_⟩
        rw [hst, psV_col h1 (by omega)]
        exact i4 i k h1 (by omega)
      · refine e_X5_passMinute_4 _ _ _ _ _ ?_
        simp only [hL.I, Option.bind_some, e12, d_le (show P < 2 ^ 31 by omega) (show j < 2 ^ 31 by omega), decide_eq_false (show ¬ P ≤ j by omega), cond_false, hN.r1, hN.a2 (show j < 5 by omega), e2, hm, c1, ub_0, nI_1]
        cases hc : (cmV l (itr (psV l) j (0, V)).2 j).1 with
        | true => rw [hc] at hr; exact hr
        | false => rw [hc] at hr; exact hr
  · rintro ⟨o, f1⟩ ⟨i1, i2, i3, i4⟩
    dsimp only at i1 i2 i3
    have hl1 : bL f1 L l := hl.fr i3 (fun a k h1 h2 h3 => by unfold TN at h3; omega)
    have e12 : f1 L 12 = nI P := by rw [show L = L + 0 from rfl, hl1.1 0 (by decide), hP]
    have i0 : f1 n = (itr (psV l) P (0, V)).2 0 := i2 0 (by decide)
    refine ⟨(o, (s, ur_u (ur_u f1 n 7 (f1 n 7 + bc32 o)) n 8 (f1 n 8 + 1), g, R)), ?_, i1, _, rfl, ?_, ?_⟩
    · refine e_X5_passMinute_4 _ _ _ _ _ ?_
      simp only [hL.I, Option.bind_some, e12, d_le (show P < 2 ^ 31 by omega) (show P < 2 ^ 31 by omega), Nat.le_refl, decide_true, cond_true, hN.I, u_bc, hN.pI, ur_un (show (8 : Nat) ≠ 7 by decide)]
    · unfold pasV pasF
      rw [i0, ← i1]
      exact (i2.u 0 7 _).u 0 8 _
    · exact (i3.u (by unfold TN; omega)).u (by unfold TN; omega)
end URX1

/-! The reference: the same is done -/
/-- the law of the reference as a function -/
def lwM (f : Nat → Nat → Int32) (b : Nat) (E : Int32 → Int32 → Int32 → Int32 → Int32) : Prop := ∃ k n, f (b + 10) 0 = nI k ∧ f (b + 11) 0 = nI (k + n) ∧ k + n ≤ 1000 ∧ ((n = 0 ∧ ∀ u t y m, E u t y m = u) ∨ (0 < n ∧ ∀ A W, wkM (f (b + 12)) A k n W = some (E (A 1) (A 2) (A 3) (A 4))))
def TM (b : Nat) : Nat → Nat → Prop := fun a _ => a = b + 33 ∨ (b + 15 ≤ a ∧ a < b + 25)
def cM (s : List (Nat ⊕ (Nat × Nat))) (R : Nat → Nat → Option Nat) (f : Nat → Nat → Int32) (b : Nat) (l V : Nat → Nat → Int32) (N P : Nat) (E : Int32 → Int32 → Int32 → Int32 → Int32) : Prop :=
  oModel s R b ∧ rL f b l N P ∧ rN V (l 0 9) N P (f (b + 33)) ∧ lwM f b E
/-- nobody is there -/
def noP (V : Nat → Nat → Int32) (P i : Nat) : Bool := itr (fun q (c : Bool) => c && !decide (V 1 q = nI i)) P true
theorem noP_iff {V : Nat → Nat → Int32} {i : Nat} : ∀ P, noP V P i = true ↔ ∀ q, q < P → V 1 q ≠ nI i
  | 0 => ⟨fun _ q h => absurd h (by omega), fun _ => rfl⟩
  | P + 1 => by
    show (noP V P i && !decide (V 1 P = nI i)) = true ↔ _
    rw [Bool.and_eq_true, noP_iff P]
    constructor
    · rintro ⟨h1, h2⟩ q hq
      by_cases h : q = P
      · rw [h]; intro z; rw [decide_eq_true z] at h2; cases h2
      · exact h1 q (by omega)
    · intro h
      refine ⟨fun q hq => h q (by omega), ?_⟩
      rw [decide_eq_false (h P (by omega))]; rfl
theorem noP_sB {V : Nat → Nat → Int32} {i P : Nat} (hP : P ≤ 32) : decide (sB (fun q => decide (V 1 q = nI i)) P ≠ 0) = !noP V P i := by
  by_cases h : sB (fun q => decide (V 1 q = nI i)) P = 0
  · rw [decide_eq_false (fun z => z h), (noP_iff P).mpr (fun q hq z => by
      have := sB_zero h hP q hq
      rw [decide_eq_true z] at this
      cases this)]
    rfl
  · rw [decide_eq_true h]
    cases hn : noP V P i with
    | false => rfl
    | true =>
      exfalso
      apply h
      apply b_ext
      intro k hk
      rw [sB_bt _ P hP k hk, b_0]
      by_cases hkP : k < P
      · rw [decide_eq_false ((noP_iff P).mp hn k hkP), Bool.and_false]
      · rw [decide_eq_false hkP, Bool.false_and]
theorem alV_it {V : Nat → Nat → Int32} {i : Nat} (hi : i < 32) (a0 : Int32) : ∀ P, (∀ q, q < P → ∃ w, w < 8 ∧ V 1 q = nI w) → bt (itr (fun q (a : Int32) => a &&& (((1 : Int32) <<< (V 1 q &&& 31)) ^^^ (-1))) P a0) i = (bt a0 i && noP V P i)
  | 0, _ => by show bt a0 i = (bt a0 i && true); rw [Bool.and_true]
  | P + 1, h => by
    obtain ⟨w, hw8, hw⟩ := h P (by omega)
    show bt (itr (fun q (a : Int32) => a &&& (((1 : Int32) <<< (V 1 q &&& 31)) ^^^ (-1))) P a0 &&& (((1 : Int32) <<< (V 1 P &&& 31)) ^^^ (-1))) i = (bt a0 i && (noP V P i && !decide (V 1 P = nI i)))
    rw [b_and, alV_it hi a0 P (fun q hq => h q (by omega)), b_not hi, hw, b_one (by omega) hi, d_eq (by omega) (by omega), Bool.and_assoc]
    by_cases e : i = w
    · rw [decide_eq_true e, decide_eq_true e.symm]
    · rw [decide_eq_false e, decide_eq_false (fun z => e z.symm)]
section URM2
variable {s : List (Nat ⊕ (Nat × Nat))} {f f' l V V' : Nat → Nat → Int32} {g : Nat → Nat → Int64} {R : Nat → Nat → Option Nat} {n L b d j p P N w q : Nat} {r x y : Int32} {E : Int32 → Int32 → Int32 → Int32 → Int32} {T : Nat → Nat → Prop} {S : Nat → Int32} {D : Nat → Int32} {al : Int32}
theorem r_al (hl : rL f b l N P) (hn : rN V (l 0 9) N P S) {i : Nat} (hi : i < 32) : bt (alV l V P) i = (decide (i < N) && (!bt (l 0 9) i && !bt (V 0 6) i) && noP V P i) := by
  have h8 := hl.1.1
  unfold alV
  rw [alV_it hi _ P (fun q hq => by obtain ⟨w, hw, e, -⟩ := hn.2.2.2.1 q hq; exact ⟨w, by omega, e⟩), hl.2.1.1, b_and, b_and, b_mask N h8 i hi, b_not hi, b_not hi]
  simp only [Bool.and_assoc]
theorem r_alsm (hl : rL f b l N P) (hn : rN V (l 0 9) N P S) : sm8 (alV l V P) := fun i h1 h2 => by
  rw [r_al hl hn h2, decide_eq_false (by have := hl.1.1; omega)]
  rfl
theorem spX_al : sb (spX D N x al) al := by
  refine itr_sb 8 (fun i hi h => ?_) (fun k y _ hy => sb_or hy (fun i hi h => ?_))
  · rw [b_and, Bool.and_eq_true] at h; exact h.2
  · rw [b_and, Bool.and_eq_true] at h; exact h.2
theorem bes_0 : ∀ N, bes D N 0 = 0
  | 0 => rfl
  | N + 1 => by
    show (bif bt 0 N then bes D N 0 ||| D N else bes D N 0) = 0
    rw [b_0, cond_false, bes_0 N]
theorem spX_0 (h : x &&& al = 0) : spX D N x al = 0 := by
  unfold spX
  rw [h]
  have : ∀ k, itr (fun _ (x : Int32) => x ||| (bes D N x &&& al)) k 0 = 0 := by
    intro k
    induction k with
    | zero => rfl
    | succ k ih =>
      show (itr (fun _ (x : Int32) => x ||| (bes D N x &&& al)) k 0) ||| (bes D N (itr (fun _ (x : Int32) => x ||| (bes D N x &&& al)) k 0) &&& al) = 0
      rw [ih, bes_0]
      apply b_ext
      intro i _
      rw [b_or, b_and, b_0]
      rfl
  exact this 8
theorem spX_st : sb (x &&& al) (spX D N x al) := itr_gr (fun _ y => sb_orl y _) 8 _
/-- flames come just where one can burn -/
theorem r_fl0 (hj : j < 8) : decide (flV l V N P j ≠ 0) = bt (alV l V P) j := by
  cases h : bt (alV l V P) j with
  | true =>
    apply decide_eq_true
    intro z
    have := spX_st (D := l 3) (N := N) (x := (1 : Int32) <<< (nI j &&& 31)) (al := alV l V P) j (by omega) (by rw [b_and, h, b_one (by omega) (by omega), decide_eq_true rfl]; rfl)
    unfold flV at z
    rw [z, b_0] at this
    cases this
  | false =>
    apply decide_eq_false
    intro z
    apply z
    refine spX_0 (b_ext fun i hi => ?_)
    rw [b_and, b_one (by omega) hi, b_0]
    by_cases e : i = j
    · rw [e, h, Bool.and_false]
    · rw [decide_eq_false e, Bool.false_and]
theorem r_flsm (hl : rL f b l N P) (hn : rN V (l 0 9) N P S) : sm8 (flV l V N P j) := fun i h1 h2 => by
  cases h : bt (flV l V N P j) i with
  | false => rfl
  | true =>
    have := spX_al (D := l 3) (N := N) i h2 h
    rw [r_alsm hl hn i h1 h2] at this
    cases this
-- what is kept
theorem r_tw (hl : rL f b l N P) (hn : rN V (l 0 9) N P S) (hp : p < P) (hj : j < N) (hc : wkV l V p j w = true) : rN (twV V p j) (l 0 9) N P (up S (4 + p) (nI j)) := by
  have h5 := hl.1.2
  obtain ⟨n1, n2, n3, n4⟩ := rN_iff.mp hn
  unfold wkV inV at hc
  simp only [Bool.and_eq_true, Bool.not_eq_true', Bool.not_not, decide_eq_true_eq] at hc
  refine rN_iff.mpr ⟨?_, fun q hq => ?_, fun q h1 h2 => ?_, n4⟩
  · rw [up_n (by omega), up_n (by omega), up_n (by omega), up_n (by omega)]
    exact n1
  · by_cases e : q = p
    · subst e
      obtain ⟨⟨c4, c14, c19, c24⟩, -⟩ := n2 q hq
      refine ⟨⟨?_, ?_, ?_, ?_⟩, j, hj, ?_, Or.inl ⟨?_, hc.2.1⟩⟩
      · rw [up_s]; exact ur_us.symm
      · rw [up_n (by omega), c14]; rfl
      · rw [up_n (by omega), c19]; rfl
      · rw [up_n (by omega), c24]; rfl
      · exact ur_us
      · show ur_u V 1 q (nI j) 2 q = -1
        rw [ur_ua (by decide)]
        simpa using hc.1.1
    · refine cR_congr (fun i hi => ?_) (up_n (by omega)) (up_n (by omega)) (up_n (by omega)) (up_n (by omega)) (up_n (by omega)) (n2 q hq)
      show ur_u V 1 p (nI j) i q = V i q
      by_cases e1 : i = 1
      · rw [e1]; exact ur_un e
      · rw [ur_ua e1]
  · rw [up_n (by omega)]; exact n3 q h1 h2
theorem r_ts (hl : rL f b l N P) (hn : rN V (l 0 9) N P S) (hp : p < P) (hj : j < N) (hw : V 1 p = nI w) (hw8 : w < 8) (hc : shV l V P p j w = true) {m : Nat} (hm : m ≤ 30) : rN (tsV V p j (nI m)) (l 0 9) N P (up (up (up (up S (9 + p) (S (4 + p))) (4 + p) (nI j)) (14 + p) (nI m)) (19 + p) (S (19 + p) + 1)) := by
  have h5 := hl.1.2
  obtain ⟨n1, n2, n3, n4⟩ := rN_iff.mp hn
  unfold shV inV at hc
  simp only [Bool.and_eq_true, Bool.not_eq_true', Bool.not_not, decide_eq_true_eq] at hc
  refine rN_iff.mpr ⟨?_, fun q hq => ?_, fun q h1 h2 => ?_, n4⟩
  · simp only [up_n (show 0 ≠ 19 + p by omega), up_n (show 0 ≠ 14 + p by omega), up_n (show 0 ≠ 4 + p by omega), up_n (show 0 ≠ 9 + p by omega), up_n (show 1 ≠ 19 + p by omega), up_n (show 1 ≠ 14 + p by omega), up_n (show 1 ≠ 4 + p by omega), up_n (show 1 ≠ 9 + p by omega), up_n (show 2 ≠ 19 + p by omega), up_n (show 2 ≠ 14 + p by omega), up_n (show 2 ≠ 4 + p by omega), up_n (show 2 ≠ 9 + p by omega), up_n (show 3 ≠ 19 + p by omega), up_n (show 3 ≠ 14 + p by omega), up_n (show 3 ≠ 4 + p by omega), up_n (show 3 ≠ 9 + p by omega)]
    exact n1
  · by_cases e : q = p
    · subst e
      obtain ⟨⟨c4, c14, c19, c24⟩, w', hw', e1, ⟨-, hu⟩ | ⟨-, k, z, hk, e2, -⟩⟩ := n2 q hq
      · have : w' = w := by
          rw [hw] at e1
          have h8 := hl.1.1
          exact ((nI_eq (by omega) (by omega)).mp e1).symm
        subst this
        unfold tsV
        refine ⟨⟨?_, ?_, ?_, ?_⟩, j, hj, ?_, Or.inr ⟨hc.2.1, m, w', hm, ?_, hw', ?_, ?_, hu⟩⟩
        · rw [up_n (by omega), up_n (by omega), up_s, ur_ua (by decide), ur_ua (by decide), ur_us]
        · rw [up_n (by omega), up_s, ur_ua (by decide), ur_us]
        · rw [up_s, ur_us, c19]
        · rw [up_n (by omega), up_n (by omega), up_n (by omega), up_n (by omega), ur_ua (by decide), ur_ua (by decide), ur_ua (by decide), ur_ua (by decide), c24]
        · rw [ur_ua (by decide), ur_ua (by decide), ur_us]
        · rw [ur_ua (by decide), ur_us]
        · rw [ur_ua (by decide), ur_ua (by decide), ur_ua (by decide), ur_us, hw]
        · rw [up_n (by omega), up_n (by omega), up_n (by omega), up_s, c4, hw]
      · exact absurd (e2.symm.trans (by simpa using hc.1.1)) (nI_ne_m1 (by omega))
    · have e9 : ∀ i, i ≠ 9 + p → i ≠ 4 + p → i ≠ 14 + p → i ≠ 19 + p → (up (up (up (up S (9 + p) (S (4 + p))) (4 + p) (nI j)) (14 + p) (nI m)) (19 + p) (S (19 + p) + 1)) i = S i := fun i h1 h2 h3 h4 => by rw [up_n h4, up_n h3, up_n h2, up_n h1]
      refine cR_congr (fun i hi => ?_) (e9 _ (by omega) (by omega) (by omega) (by omega)) (e9 _ (by omega) (by omega) (by omega) (by omega)) (e9 _ (by omega) (by omega) (by omega) (by omega)) (e9 _ (by omega) (by omega) (by omega) (by omega)) (e9 _ (by omega) (by omega) (by omega) (by omega)) (n2 q hq)
      have u : ∀ (W : Nat → Nat → Int32) (a : Nat) (v : Int32), ur_u W a p v i q = W i q := fun W a v => by
        unfold ur_u
        by_cases h : i = a
        · rw [if_pos h, if_neg e, h]
        · rw [if_neg h]
      unfold tsV
      rw [u, u, u, u]
  · rw [up_n (by omega), up_n (by omega), up_n (by omega), up_n (by omega)]; exact n3 q h1 h2
theorem r_tp (hl : rL f b l N P) (hn : rN V (l 0 9) N P S) (hp : p < P) : rN (tpV V p) (l 0 9) N P (up (up (up S 3 (S 3 ||| ((1 : Int32) <<< (nI p &&& 31)))) (19 + p) 0) (24 + p) 0) := by
  have h5 := hl.1.2
  obtain ⟨n1, n2, n3, n4⟩ := rN_iff.mp hn
  refine rN_iff.mpr ⟨⟨?_, ?_, ?_, ?_⟩, fun q hq => ?_, fun q h1 h2 => ?_, ?_⟩
  · rw [up_n (by omega), up_n (by omega), up_n (by omega), n1.1]; unfold tpV; rw [ur_ua (by decide), ur_ua (by decide), ur_un (by decide)]
  · rw [up_n (by omega), up_n (by omega), up_n (by omega), n1.2.1]; unfold tpV; rw [ur_ua (by decide), ur_ua (by decide), ur_un (by decide)]
  · rw [up_n (by omega), up_n (by omega), up_n (by omega), n1.2.2.1]; unfold tpV; rw [ur_ua (by decide), ur_ua (by decide), ur_un (by decide)]
  · rw [up_n (by omega), up_n (by omega), up_s, n1.2.2.2]; unfold tpV; rw [ur_ua (by decide), ur_ua (by decide), ur_us]
  · by_cases e : q = p
    · subst e
      obtain ⟨⟨c4, c14, c19, c24⟩, c⟩ := n2 q hq
      unfold tpV
      refine ⟨⟨?_, ?_, ?_, ?_⟩, ?_⟩
      · rw [up_n (by omega), up_n (by omega), up_n (by omega), c4]; rfl
      · rw [up_n (by omega), up_n (by omega), up_n (by omega), c14]; rfl
      · rw [up_n (by omega), up_s, ur_ua (by decide), ur_us]
      · rw [up_s, ur_us]
      · rw [up_n (by omega), up_n (by omega), up_n (by omega), ur_ua (by decide), ur_ua (by decide), ur_ua (by decide), ur_ua (by decide), ur_ua (by decide), ur_ua (by decide), ur_ua (by decide), ur_ua (by decide), ur_ua (by decide)]
        exact c
    · refine cR_congr (fun i hi => ?_) ?_ ?_ ?_ ?_ ?_ (n2 q hq)
      · unfold tpV
        have u : ∀ (W : Nat → Nat → Int32) (a : Nat) (v : Int32), ur_u W a p v i q = W i q := fun W a v => by
          unfold ur_u
          by_cases h : i = a
          · rw [if_pos h, if_neg e, h]
          · rw [if_neg h]
        rw [u, u, ur_ua hi]
      all_goals rw [up_n (by omega), up_n (by omega), up_n (by omega)]
  · by_cases e : 24 + q = 24 + p
    · rw [e, up_s]
    · rw [up_n e, up_n (by omega), up_n (by omega)]; exact n3 q h1 h2
  · have : tpV V p 0 6 = V 0 6 := by unfold tpV; rw [ur_ua (by decide), ur_ua (by decide), ur_un (by decide)]
    rw [this]
    exact n4
theorem r_tb (hl : rL f b l N P) (hn : rN V (l 0 9) N P S) : rN (ur_u V 0 6 (V 0 6 ||| flV l V N P j)) (l 0 9) N P (up S 2 (S 2 ||| flV l V N P j)) := by
  have h5 := hl.1.2
  obtain ⟨n1, n2, n3, n4⟩ := rN_iff.mp hn
  refine rN_iff.mpr ⟨⟨?_, ?_, ?_, ?_⟩, fun q hq => ?_, fun q h1 h2 => ?_, ?_⟩
  · rw [up_n (by omega), ur_un (by decide), n1.1]
  · rw [up_n (by omega), ur_un (by decide), n1.2.1]
  · rw [up_s, ur_us, n1.2.2.1]
  · rw [up_n (by omega), ur_un (by decide), n1.2.2.2]
  · exact cR_congr (fun i hi => by rw [ur_ua hi]) (up_n (by omega)) (up_n (by omega)) (up_n (by omega)) (up_n (by omega)) (up_n (by omega)) (n2 q hq)
  · rw [up_n (by omega)]; exact n3 q h1 h2
  · intro i hi h
    rw [ur_us, b_or, Bool.or_eq_true] at h
    rcases h with h | h
    · exact n4 i hi h
    · have := spX_al (D := l 3) (N := N) i hi h
      rw [r_al hl hn hi] at this
      simp only [Bool.and_eq_true, Bool.not_eq_true', decide_eq_true_eq] at this
      exact ⟨this.1.1, this.1.2.1⟩
end URM2

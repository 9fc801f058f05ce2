/-! THE RELATION of class and reference: land and night; what can be done is the same -/
/-- blocks: l the class's land as rows from its place on, V a night of it; inside, let in -/
def inV (V : Nat → Nat → Int32) (p : Nat) : Bool := !decide (V 2 p = -1)
def ltV (V l : Nat → Nat → Int32) (p : Nat) : Bool := !bt (V 0 5) p && (!(decide (l 5 p = 2) && !decide (4 ≤ l 6 p)) && !decide (l 5 p = 3))
/-- l the class's land, b the reference, N rooms, P persons -/
def rL (f : Nat → Nat → Int32) (b : Nat) (l : Nat → Nat → Int32) (N P : Nat) : Prop :=
  (N ≤ 8 ∧ P ≤ 5) ∧ (l 0 10 = nI N ∧ l 0 12 = nI P ∧ f (b + 2) 0 = nI N ∧ f (b + 2) 2 = nI P ∧ f (b + 2) 1 = l 0 11) ∧
  (∀ r, r < N → f (b + 4) r = l 2 r ∧ f (b + 5) r = l 3 r ∧ bt (l 0 9) r = !decide (l 2 r ≤ 0)) ∧
  (∀ i, N ≤ i → i < 32 → bt (l 0 9) i = false) ∧
  (∀ r i, r < N → N ≤ i → i < 32 → bt (l 3 r) i = false) ∧
  (∀ r q, r < N → q < N → bt (l 3 r) q = bt (l 3 q) r) ∧
  (∀ r q, r < N → q < N → bt (l 3 r) q = true → bt (l 0 9) r = true → bt (l 0 9) q = false) ∧
  (∀ p, p < P → f (b + 7) p = l 5 p ∧ f (b + 8) p = l 6 p ∧ f (b + 9) p = l 7 p ∧ ∃ h, h < N ∧ l 7 p = nI h ∧ bt (l 0 9) h = false)
/-- V a night of the class, U the unsaid rooms, S a row of the reference -/
def rN (V : Nat → Nat → Int32) (U : Int32) (N P : Nat) (S : Nat → Int32) : Prop :=
  (S 0 = V 0 8 ∧ S 1 = V 0 7 ∧ S 2 = V 0 6 ∧ S 3 = V 0 5) ∧
  (∀ p, p < P → S (4 + p) = V 1 p ∧ S (14 + p) = V 2 p ∧ S (19 + p) = V 4 p ∧ S (24 + p) = V 5 p) ∧
  (∀ p, P ≤ p → p < 5 → S (24 + p) = 0) ∧
  (∀ p, p < P → ∃ w, w < N ∧ V 1 p = nI w ∧ ((V 2 p = -1 ∧ bt U w = false) ∨ (bt U w = true ∧ ∃ k q, k ≤ 30 ∧ V 2 p = nI k ∧ q < N ∧ V 3 p = nI q ∧ S (9 + p) = nI q ∧ bt U q = false))) ∧
  (∀ i, i < 32 → bt (V 0 6) i = true → i < N ∧ bt U i = false)
theorem b_not {x : Int32} {i : Nat} (hi : i < 32) : bt (x ^^^ (-1)) i = !bt x i := by rw [b_xor, b_m1 i hi]; simp
theorem b_mask : ∀ N, N ≤ 8 → ∀ i, i < 32 → bt (((1 : Int32) <<< (nI N &&& 31)) - 1) i = decide (i < N) := by decide +kernel
theorem nI_ne_m1 {k : Nat} (hk : k < 2 ^ 31) : nI k ≠ -1 := fun z => by
  have h1 := nI_pos' hk
  rw [z] at h1
  exact absurd h1 (by decide)
theorem i_le3 (a : Int32) : decide (a ≤ 3) = !decide (4 ≤ a) := by
  by_cases h : a ≤ 3
  · rw [decide_eq_true h, decide_eq_false]
    · rfl
    · intro z
      have := Int32.le_trans z h
      exact absurd this (by decide)
  · rw [decide_eq_false h, decide_eq_true]
    · rfl
    · have h1 := Int32.not_le.mp h
      rw [Int32.lt_iff_toInt_lt] at h1
      rw [Int32.le_iff_toInt_le]
      have e3 : (3 : Int32).toInt = 3 := by decide
      have e4 : (4 : Int32).toInt = 4 := by decide
      omega
section URR
variable {f l V : Nat → Nat → Int32} {b N P p j w : Nat}
theorem r_in (hn : rN V (l 0 9) N P (f (b + 33))) (hp : p < P) : inM' f b p = inV V p := by
  unfold inM' inV
  rw [(hn.2.1 p hp).2.1]
  obtain ⟨w, hw, e1, ⟨e2, -⟩ | ⟨-, k, q, hk, e2, -⟩⟩ := hn.2.2.2.1 p hp
  · rw [e2]; decide
  · rw [e2, decide_eq_false (nI_pos (show k < 2 ^ 31 by omega)), decide_eq_false (nI_ne_m1 (show k < 2 ^ 31 by omega))]
theorem r_uns (hl : rL f b l N P) : sB (fun r => !decide (f (b + 4) r ≤ 0)) N = l 0 9 := by
  apply b_ext
  intro i hi
  rw [sB_bt _ N (by have := hl.1.1; omega) i hi]
  by_cases h : i < N
  · rw [decide_eq_true h, Bool.true_and, (hl.2.2.1 i h).2.2, (hl.2.2.1 i h).1]
  · rw [decide_eq_false h, Bool.false_and, hl.2.2.2.1 i (by omega) hi]
/-- what is open -/
theorem r_op (hl : rL f b l N P) (hn : rN V (l 0 9) N P (f (b + 33))) : opM f b N = ((((1 : Int32) <<< (l 0 10 &&& 31)) - 1) &&& (l 0 9 ^^^ (-1))) &&& (V 0 6 ^^^ (-1)) := by
  unfold opM
  rw [r_uns hl, hn.1.2.2.1, hl.2.1.1]
theorem r_opb (hl : rL f b l N P) (hn : rN V (l 0 9) N P (f (b + 33))) {i : Nat} (hi : i < 32) : bt (opM f b N) i = (decide (i < N) && (!bt (l 0 9) i && !bt (V 0 6) i)) := by
  rw [r_op hl hn, hl.2.1.1, b_and, b_and, b_mask N hl.1.1 i hi, b_not hi, b_not hi, Bool.and_assoc]
theorem r_walk (hl : rL f b l N P) (hn : rN V (l 0 9) N P (f (b + 33))) (hp : p < P) (hj : j < N) (hw : w < N) : bt (bif inM' f b p then 0 else f (b + 5) w &&& opM f b N) j = ((!inV V p && bt (l 3 j) w) && (!bt (l 0 9) j && !bt (V 0 6) j)) := by
  have h8 := hl.1.1
  rw [r_in hn hp]
  cases inV V p with
  | true => simp only [cond_true, b_0, Bool.not_true, Bool.false_and]
  | false =>
    simp only [cond_false, Bool.not_false, Bool.true_and]
    rw [b_and, r_opb hl hn (show j < 32 by omega), decide_eq_true hj, Bool.true_and, (hl.2.2.1 w hw).2.1, hl.2.2.2.2.2.1 w j hw hj]
theorem r_fit (hl : rL f b l N P) (hn : rN V (l 0 9) N P (f (b + 33))) (hp : p < P) : ftM f b p = (!inV V p && ltV V l p) := by
  unfold ftM ltV
  rw [r_in hn hp, hn.1.2.2.2, (hl.2.2.2.2.2.2.2 p hp).1, (hl.2.2.2.2.2.2.2 p hp).2.1, i_le3]
  cases bt (V 0 5) p <;> cases decide (l 5 p = 3) <;> cases decide (l 5 p = 2) <;> cases decide (4 ≤ l 6 p) <;> cases inV V p <;> rfl
theorem r_host (hl : rL f b l N P) (hn : rN V (l 0 9) N P (f (b + 33))) (hj : j < N) (hu : bt (l 0 9) j = true) : fsP (fun q => inM' f b q && decide (f (b + 33) (4 + q) = nI j)) P 0 = fsP (fun q => decide (V 1 q = nI j)) P 0 := by
  have h8 := hl.1.1
  refine fsP_congr P 0 (fun q _ hq => ?_)
  have hq : q < P := by omega
  rw [r_in hn hq, (hn.2.1 q hq).1]
  obtain ⟨w, hw, e1, ⟨e2, e3⟩ | ⟨-, k, z, hk, e2, -⟩⟩ := hn.2.2.2.1 q hq
  · rw [e1, d_eq (show w < 2 ^ 31 by omega) (show j < 2 ^ 31 by omega), decide_eq_false (show ¬ w = j from fun z => by rw [z, hu] at e3; cases e3), Bool.and_false]
  · have : inV V q = true := by unfold inV; rw [e2, decide_eq_false (nI_ne_m1 (show k < 2 ^ 31 by omega))]; rfl
    rw [this, Bool.true_and]
theorem r_show (hl : rL f b l N P) (hn : rN V (l 0 9) N P (f (b + 33))) (hp : p < P) (hj : j < N) (hw : w < N) : (ftM f b p && (!decide (f (b + 4) j ≤ 0) && (bt (f (b + 5) w) j && decide (fsP (fun q => inM' f b q && decide (f (b + 33) (4 + q) = nI j)) P 0 = -1)))) = ((!inV V p && bt (l 3 j) w) && (bt (l 0 9) j && (ltV V l p && decide (fsP (fun q => decide (V 1 q = nI j)) P 0 = -1)))) := by
  rw [r_fit hl hn hp, (hl.2.2.1 j hj).1, ← (hl.2.2.1 j hj).2.2, (hl.2.2.1 w hw).2.1, hl.2.2.2.2.2.1 w j hw hj]
  cases hu : bt (l 0 9) j with
  | false => cases inV V p <;> cases ltV V l p <;> cases bt (l 3 j) w <;> rfl
  | true =>
    rw [r_host hl hn hj hu]
    cases inV V p <;> cases ltV V l p <;> cases bt (l 3 j) w <;> rfl
theorem r_speak (hl : rL f b l N P) (hn : rN V (l 0 9) N P (f (b + 33))) (hp : p < P) : (!decide (f (b + 7) p = 1) && (!inM' f b p && (!decide (f (b + 33) (19 + p) ≤ 0) && !bt (f (b + 33) 3) p))) = (!decide (V 4 p ≤ 0) && (!decide (l 5 p = 1) && (!inV V p && !bt (V 0 5) p))) := by
  rw [r_in hn hp, hn.1.2.2.2, (hl.2.2.2.2.2.2.2 p hp).1, (hn.2.1 p hp).2.2.1]
  cases decide (l 5 p = 1) <;> cases inV V p <;> cases decide (V 4 p ≤ 0) <;> cases bt (V 0 5) p <;> rfl
theorem itr_add_congr {F G : Nat → Int32} : ∀ (n : Nat), (∀ p, p < n → F p = G p) → itr (fun p (a : Int32) => a + F p) n 0 = itr (fun p (a : Int32) => a + G p) n 0
  | 0, _ => rfl
  | n + 1, h => by
    show itr _ n 0 + F n = itr _ n 0 + G n
    rw [itr_add_congr n (fun p hp => h p (by omega)), h n (by omega)]
theorem itr_add_zero {F : Nat → Int32} {P : Nat} : ∀ (n : Nat), P ≤ n → (∀ p, P ≤ p → p < n → F p = 0) → itr (fun p (a : Int32) => a + F p) n 0 = itr (fun p (a : Int32) => a + F p) P 0
  | 0, h, _ => by rw [show P = 0 by omega]
  | n + 1, h, hz => by
    by_cases hP : P = n + 1
    · rw [hP]
    · show itr _ n 0 + F n = _
      rw [hz n (by omega) (by omega), itr_add_zero n (by omega) (fun p h1 h2 => hz p h1 (by omega))]
      exact Int32.add_zero _
theorem r_been (hl : rL f b l N P) (hn : rN V (l 0 9) N P (f (b + 33))) : itr (fun p (a : Int32) => a + f (b + 33) (24 + p)) 5 0 = itr (fun p (a : Int32) => a + V 5 p) P 0 := by
  rw [itr_add_zero (P := P) 5 hl.1.2 (fun p h1 h2 => hn.2.2.1 p h1 h2)]
  exact itr_add_congr P (fun p hp => (hn.2.1 p hp).2.2.2)
theorem r_ins (hn : rN V (l 0 9) N P (f (b + 33))) : sB (fun p => !decide (f (b + 33) (14 + p) < 0)) P = sB (fun p => !decide (V 2 p = -1)) P := sB_congr (fun p hp => r_in hn hp)
end URR

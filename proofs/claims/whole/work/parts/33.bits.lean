/-! SPECS: bits of small sets; spreading -/
def bc32 (p0 : Int32) : Int32 := ((((((((p0 - (((p0).toUInt32 >>> (((1 : Int32)).toUInt32 &&& Int32.toUInt32 31)).toInt32 &&& (1431655765 : Int32))) &&& (858993459 : Int32)) + ((((p0 - (((p0).toUInt32 >>> (((1 : Int32)).toUInt32 &&& Int32.toUInt32 31)).toInt32 &&& (1431655765 : Int32)))).toUInt32 >>> (((2 : Int32)).toUInt32 &&& Int32.toUInt32 31)).toInt32 &&& (858993459 : Int32))) + (((((p0 - (((p0).toUInt32 >>> (((1 : Int32)).toUInt32 &&& Int32.toUInt32 31)).toInt32 &&& (1431655765 : Int32))) &&& (858993459 : Int32)) + ((((p0 - (((p0).toUInt32 >>> (((1 : Int32)).toUInt32 &&& Int32.toUInt32 31)).toInt32 &&& (1431655765 : Int32)))).toUInt32 >>> (((2 : Int32)).toUInt32 &&& Int32.toUInt32 31)).toInt32 &&& (858993459 : Int32)))).toUInt32 >>> (((4 : Int32)).toUInt32 &&& Int32.toUInt32 31)).toInt32) &&& (252645135 : Int32)) + (((((((p0 - (((p0).toUInt32 >>> (((1 : Int32)).toUInt32 &&& Int32.toUInt32 31)).toInt32 &&& (1431655765 : Int32))) &&& (858993459 : Int32)) + ((((p0 - (((p0).toUInt32 >>> (((1 : Int32)).toUInt32 &&& Int32.toUInt32 31)).toInt32 &&& (1431655765 : Int32)))).toUInt32 >>> (((2 : Int32)).toUInt32 &&& Int32.toUInt32 31)).toInt32 &&& (858993459 : Int32))) + (((((p0 - (((p0).toUInt32 >>> (((1 : Int32)).toUInt32 &&& Int32.toUInt32 31)).toInt32 &&& (1431655765 : Int32))) &&& (858993459 : Int32)) + ((((p0 - (((p0).toUInt32 >>> (((1 : Int32)).toUInt32 &&& Int32.toUInt32 31)).toInt32 &&& (1431655765 : Int32)))).toUInt32 >>> (((2 : Int32)).toUInt32 &&& Int32.toUInt32 31)).toInt32 &&& (858993459 : Int32)))).toUInt32 >>> (((4 : Int32)).toUInt32 &&& Int32.toUInt32 31)).toInt32) &&& (252645135 : Int32))).toUInt32 >>> (((8 : Int32)).toUInt32 &&& Int32.toUInt32 31)).toInt32) + ((((((((p0 - (((p0).toUInt32 >>> (((1 : Int32)).toUInt32 &&& Int32.toUInt32 31)).toInt32 &&& (1431655765 : Int32))) &&& (858993459 : Int32)) + ((((p0 - (((p0).toUInt32 >>> (((1 : Int32)).toUInt32 &&& Int32.toUInt32 31)).toInt32 &&& (1431655765 : Int32)))).toUInt32 >>> (((2 : Int32)).toUInt32 &&& Int32.toUInt32 31)).toInt32 &&& (858993459 : Int32))) + (((((p0 - (((p0).toUInt32 >>> (((1 : Int32)).toUInt32 &&& Int32.toUInt32 31)).toInt32 &&& (1431655765 : Int32))) &&& (858993459 : Int32)) + ((((p0 - (((p0).toUInt32 >>> (((1 : Int32)).toUInt32 &&& Int32.toUInt32 31)).toInt32 &&& (1431655765 : Int32)))).toUInt32 >>> (((2 : Int32)).toUInt32 &&& Int32.toUInt32 31)).toInt32 &&& (858993459 : Int32)))).toUInt32 >>> (((4 : Int32)).toUInt32 &&& Int32.toUInt32 31)).toInt32) &&& (252645135 : Int32)) + (((((((p0 - (((p0).toUInt32 >>> (((1 : Int32)).toUInt32 &&& Int32.toUInt32 31)).toInt32 &&& (1431655765 : Int32))) &&& (858993459 : Int32)) + ((((p0 - (((p0).toUInt32 >>> (((1 : Int32)).toUInt32 &&& Int32.toUInt32 31)).toInt32 &&& (1431655765 : Int32)))).toUInt32 >>> (((2 : Int32)).toUInt32 &&& Int32.toUInt32 31)).toInt32 &&& (858993459 : Int32))) + (((((p0 - (((p0).toUInt32 >>> (((1 : Int32)).toUInt32 &&& Int32.toUInt32 31)).toInt32 &&& (1431655765 : Int32))) &&& (858993459 : Int32)) + ((((p0 - (((p0).toUInt32 >>> (((1 : Int32)).toUInt32 &&& Int32.toUInt32 31)).toInt32 &&& (1431655765 : Int32)))).toUInt32 >>> (((2 : Int32)).toUInt32 &&& Int32.toUInt32 31)).toInt32 &&& (858993459 : Int32)))).toUInt32 >>> (((4 : Int32)).toUInt32 &&& Int32.toUInt32 31)).toInt32) &&& (252645135 : Int32))).toUInt32 >>> (((8 : Int32)).toUInt32 &&& Int32.toUInt32 31)).toInt32)).toUInt32 >>> (((16 : Int32)).toUInt32 &&& Int32.toUInt32 31)).toInt32) &&& (63 : Int32))
def nz62 (p0 p1 : Int32) : Int32 := bif decide (p0 ≤ (4 : Int32)) then (p1 + ((p0).toUInt32 >>> (((1 : Int32)).toUInt32 &&& Int32.toUInt32 31)).toInt32) else ((p1 + (2 : Int32)) + ((((p0).toUInt32 >>> (((2 : Int32)).toUInt32 &&& Int32.toUInt32 31)).toInt32).toUInt32 >>> (((1 : Int32)).toUInt32 &&& Int32.toUInt32 31)).toInt32)
def nz34 (p0 p1 : Int32) : Int32 := (bif decide (p0 ≤ (256 : Int32)) then (bif decide (p0 ≤ (16 : Int32)) then nz62 p0 p1 else nz62 ((p0).toUInt32 >>> (((4 : Int32)).toUInt32 &&& Int32.toUInt32 31)).toInt32 (p1 + (4 : Int32))) else (bif decide (((p0).toUInt32 >>> (((8 : Int32)).toUInt32 &&& Int32.toUInt32 31)).toInt32 ≤ (16 : Int32)) then nz62 ((p0).toUInt32 >>> (((8 : Int32)).toUInt32 &&& Int32.toUInt32 31)).toInt32 (p1 + (8 : Int32)) else nz62 ((((p0).toUInt32 >>> (((8 : Int32)).toUInt32 &&& Int32.toUInt32 31)).toInt32).toUInt32 >>> (((4 : Int32)).toUInt32 &&& Int32.toUInt32 31)).toInt32 ((p1 + (8 : Int32)) + (4 : Int32))))
def nz32 (p0 : Int32) : Int32 := (bif decide (0 < ((p0 ^^^ (-1 : Int32)) &&& (p0 - (1 : Int32)))) then (bif decide (((p0 ^^^ (-1 : Int32)) &&& (p0 - (1 : Int32))) ≤ (65536 : Int32)) then nz34 ((p0 ^^^ (-1 : Int32)) &&& (p0 - (1 : Int32))) 1 else nz34 ((((p0 ^^^ (-1 : Int32)) &&& (p0 - (1 : Int32)))).toUInt32 >>> (((16 : Int32)).toUInt32 &&& Int32.toUInt32 31)).toInt32 ((1 : Int32) + (16 : Int32))) else (((p0 ^^^ (-1 : Int32)) &&& (p0 - (1 : Int32))) &&& (32 : Int32)))
theorem u_62 {d : Nat} (x y : Int32) (m : ur_M) : ur_at ur_G d 252 (62, [some (.int x), some (.int y)], [], m) = some (nz62 x y, m) := by
  refine e_J6_numberOfTrailingZeros_0f7a4_62 _ _ _ ?_
  unfold nz62
  cases decide (x ≤ (4 : Int32)) <;> rfl
theorem u_34 {d : Nat} (x y : Int32) (m : ur_M) : ur_at ur_G d 252 (34, [some (.int x), some (.int y)], [], m) = some (nz34 x y, m) := by
  refine e_J6_numberOfTrailingZeros_0f7a4_34 _ _ _ ?_
  simp only [u_62]
  unfold nz34
  cases decide (x ≤ (256 : Int32)) with
  | true => cases decide (x ≤ (16 : Int32)) <;> rfl
  | false => cases decide (((x).toUInt32 >>> (((8 : Int32)).toUInt32 &&& Int32.toUInt32 31)).toInt32 ≤ (16 : Int32)) <;> rfl
theorem u_nz {d : Nat} (x : Int32) (m : ur_M) : ur_call ur_G (d + 1) 252 [.int x] m = some (nz32 x, m) := by
  refine ur_cl rfl rfl (e_J6_numberOfTrailingZeros_0f7a4_0 _ _ ?_)
  simp only [u_34]
  unfold nz32
  cases decide (0 < ((x ^^^ (-1 : Int32)) &&& (x - (1 : Int32)))) with
  | true => cases decide (((x ^^^ (-1 : Int32)) &&& (x - (1 : Int32))) ≤ (65536 : Int32)) <;> rfl
  | false => rfl
theorem u_bc {d : Nat} (x : Int32) (m : ur_M) : ur_call ur_G (d + 1) 253 [.int x] m = some (bc32 x, m) := ur_cl rfl rfl (e_J6_bitCount_0f7a4_0 _ _ rfl)
theorem u_lo {d : Nat} (x : Int32) (m : ur_M) : ur_call ur_G (d + 1) 251 [.int x] m = some (x &&& (-x), m) := ur_cl rfl rfl (e_J6_lowestOneBit_0f7a4_0 _ _ rfl)
-- the first of a set, its number
def fsB (x : Int32) : Nat → Nat → Int32
  | 0, _ => -1
  | n + 1, j => bif bt x j then nI j else fsB x n (j + 1)
def cnB (x : Int32) : Int32 := itr (fun j (a : Int32) => a + ur_b (bt x j)) 8 0
/-- a set of numbers under 8 -/
def sm8 (x : Int32) : Prop := ∀ i, 8 ≤ i → i < 32 → bt x i = false
theorem sm8_nI {x : Int32} (h : sm8 x) : ∃ k, k < 256 ∧ x = nI k := by
  obtain ⟨j, h1, h2⟩ := pk_andE x (m := 255) 8 (by decide)
  refine ⟨j, h1, ?_⟩
  rw [← h2]
  apply b_ext
  intro i hi
  rw [b_and, b_255]
  by_cases h8 : i < 8
  · simp [h8]
  · rw [h i (by omega) hi]; rfl
theorem nz_tab : ∀ k, k < 256 → k ≠ 0 → nz32 (nI k) = fsB (nI k) 8 0 := by decide +kernel
theorem bc_tab : ∀ k, k < 256 → bc32 (nI k) = cnB (nI k) := by decide +kernel
theorem lo_tab : ∀ k, k < 256 → k ≠ 0 → nI k &&& (-nI k) = (1 : Int32) <<< (fsB (nI k) 8 0 &&& 31) := by decide +kernel
theorem nz_sm {x : Int32} (h : sm8 x) (h0 : x ≠ 0) : nz32 x = fsB x 8 0 := by
  obtain ⟨k, hk, rfl⟩ := sm8_nI h
  exact nz_tab k hk (fun z => h0 (by rw [z]; rfl))
theorem bc_sm {x : Int32} (h : sm8 x) : bc32 x = cnB x := by
  obtain ⟨k, hk, rfl⟩ := sm8_nI h
  exact bc_tab k hk
theorem lo_sm {x : Int32} (h : sm8 x) (h0 : x ≠ 0) : x &&& (-x) = (1 : Int32) <<< (fsB x 8 0 &&& 31) := by
  obtain ⟨k, hk, rfl⟩ := sm8_nI h
  exact lo_tab k hk (fun z => h0 (by rw [z]; rfl))
theorem sm8_sB {P : Nat → Bool} {n : Nat} (hn : n ≤ 8) : sm8 (sB P n) := fun i h1 h2 => by
  rw [sB_bt P n (by omega) i h2]
  simp; omega
theorem sm8_and {x y : Int32} (h : sm8 x) : sm8 (x &&& y) := fun i h1 h2 => by rw [b_and, h i h1 h2]; rfl
theorem sm8_and2 {x y : Int32} (h : sm8 y) : sm8 (x &&& y) := fun i h1 h2 => by rw [b_and, h i h1 h2, Bool.and_false]
theorem sm8_or {x y : Int32} (h : sm8 x) (h' : sm8 y) : sm8 (x ||| y) := fun i h1 h2 => by rw [b_or, h i h1 h2, h' i h1 h2]; rfl
theorem sm8_0 : sm8 0 := fun i _ _ => b_0 i
section URB2
variable {s : List (Nat ⊕ (Nat × Nat))} {f : Nat → Nat → Int32} {g : Nat → Nat → Int64} {R : Nat → Nat → Option Nat} {n L b d j p P N : Nat} {r x y : Int32}
theorem t_firstOf {m : ur_M} (x : Int32) : ur_call ur_G (d + 1) 199 [.int x] m = some (fsB x 8 0, m) := by
  refine ur_cl rfl rfl (e_X10_firstOf_0 _ _ ?_)
  have key : ∀ (n j : Nat), n + j = 8 → ur_at ur_G d 199 (2, [some (.int x), some (.int (nI j))], [], m) = some (fsB x n j, m) := by
    intro n
    induction n with
    | zero =>
      intro j hj
      refine e_X10_firstOf_2 _ _ _ ?_
      have : j = 8 := by omega
      subst this
      rfl
    | succ n ih =>
      intro j hj
      refine e_X10_firstOf_2 _ _ _ ?_
      rw [show (8 : Int32) = nI 8 from rfl, d_le (by decide) (by omega), decide_eq_false (show ¬ 8 ≤ j by omega), cond_false, b_bit (by omega), ub_n1, nI_1, ih (j + 1) (by omega)]
      show _ = some (bif bt x j then nI j else fsB x n (j + 1), m)
      cases bt x j <;> rfl
  exact key 8 0 rfl
theorem t_bits {m : ur_M} (x : Int32) : ur_call ur_G (d + 1) 142 [.int x] m = some (cnB x, m) := by
  refine ur_cl rfl rfl (e_X10_bits_0 _ _ ?_)
  refine itr_loop (step := fun j (a : Int32) => a + ur_b (bt x j)) (n := 8) (Fn := fun j a => ur_at ur_G d 142 (4, [some (.int x), some (.int a), some (.int (nI j))], [], m)) (fun j a hj h => ?_) 8 0 (Nat.le_refl 8) ?_
  · refine e_X10_bits_4 _ _ _ _ ?_
    rw [show (8 : Int32) = nI 8 from rfl, d_le (by decide) (by omega), decide_eq_false (show ¬ 8 ≤ j by omega), cond_false, b_bit (by omega), nI_1]
    exact h
  · exact e_X10_bits_4 _ _ _ _ rfl
/-- rooms beside some -/
def bes (D : Nat → Int32) (N : Nat) (x : Int32) : Int32 := itr (fun j (a : Int32) => bif bt x j then a ||| D j else a) N 0
def spX (D : Nat → Int32) (N : Nat) (st al : Int32) : Int32 := itr (fun _ (x : Int32) => x ||| (bes D N x &&& al)) 8 (st &&& al)
def inM (D : Nat → Int32) (N : Nat) (al x : Int32) : Int32 := itr (fun k (y : Int32) => bif bt y k then y ||| (D k &&& al) else y) N x
def spM (D : Nat → Int32) (N : Nat) (st al : Int32) : Int32 := itr (fun _ (x : Int32) => inM D N al x) 8 (st &&& al)
theorem s_roomsBeside (hL : oLand s R L) (hN : f L 10 = nI N) (hN8 : N ≤ 8) : ur_call ur_G (d + 2) 7 [.ref L, .int x] (s, f, g, R) = some (bes (f (L + 3)) N x, (s, f, g, R)) := by
  refine ur_cl hL.rcv rfl (e_X1_roomsBeside_0 _ _ _ ?_)
  refine itr_loop (step := fun j (a : Int32) => bif bt x j then a ||| f (L + 3) j else a) (n := N) (Fn := fun j a => ur_at ur_G (d + 1) 7 (4, [some (.ref L), some (.int x), some (.int a), some (.int (nI j))], [], (s, f, g, R))) (fun j a hj h => ?_) N 0 (Nat.le_refl N) ?_
  · refine e_X1_roomsBeside_4 _ _ _ _ _ ?_
    simp only [hL.I, Option.bind_some, hN, d_le (show N < 2 ^ 31 by omega) (show j < 2 ^ 31 by omega), decide_eq_false (show ¬ N ≤ j by omega), cond_false, s_bit x (show j < 32 by omega), ub_n1, hL.r2, hL.a3 (show j < 8 by omega), nI_1]
    cases hq : bt x j with
    | true => rw [hq] at h; exact h
    | false => rw [hq] at h; exact h
  · refine e_X1_roomsBeside_4 _ _ _ _ _ ?_
    simp only [hL.I, Option.bind_some, hN, d_le (show N < 2 ^ 31 by omega) (show N < 2 ^ 31 by omega), Nat.le_refl, decide_true, cond_true]
    rfl
theorem s_spread (hL : oLand s R L) (hN : f L 10 = nI N) (hN8 : N ≤ 8) : ur_call ur_G (d + 3) 8 [.ref L, .int x, .int y] (s, f, g, R) = some (spX (f (L + 3)) N x y, (s, f, g, R)) := by
  refine ur_cl hL.rcv rfl (e_X1_spread_0 _ _ _ _ ?_)
  refine itr_loop (step := fun _ (z : Int32) => z ||| (bes (f (L + 3)) N z &&& y)) (n := 8) (Fn := fun j z => ur_at ur_G (d + 2) 8 (7, [some (.ref L), none, some (.int y), some (.int z), some (.int (nI j))], [], (s, f, g, R))) (fun j z hj h => ?_) 8 _ (Nat.le_refl 8) ?_
  · refine e_X1_spread_7 _ _ _ _ _ ?_
    rw [show (8 : Int32) = nI 8 from rfl, d_le (by decide) (by omega), decide_eq_false (show ¬ 8 ≤ j by omega), cond_false, s_roomsBeside hL hN hN8, Option.bind_some, nI_1]
    exact h
  · exact e_X1_spread_7 _ _ _ _ _ rfl
theorem t_spreads (hM : oModel s R b) (hN : f (b + 2) 0 = nI N) (hN8 : N ≤ 8) : ur_call ur_G (d + 1) 197 [.ref b, .int x, .int y] (s, f, g, R) = some (spM (f (b + 5)) N x y, (s, f, g, R)) := by
  refine ur_cl hM.rcv rfl (e_X10_spreads_0 _ _ _ _ ?_)
  refine itr_loop (step := fun _ (z : Int32) => inM (f (b + 5)) N y z) (n := 8) (Fn := fun j z => ur_at ur_G d 197 (7, [some (.ref b), none, some (.int y), some (.int z), some (.int (nI j)), none], [], (s, f, g, R))) (fun j z hj h => ?_) 8 _ (Nat.le_refl 8) ?_
  · refine e_X10_spreads_7 _ _ _ _ _ ?_
    rw [show (8 : Int32) = nI 8 from rfl, d_le (by decide) (by omega), decide_eq_false (show ¬ 8 ≤ j by omega), cond_false]
    refine itr_loop (step := fun k (w : Int32) => bif bt w k then w ||| (f (b + 5) k &&& y) else w) (n := N) (Fn := fun k w => ur_at ur_G d 197 (17, [some (.ref b), none, some (.int y), some (.int w), some (.int (nI j)), some (.int (nI k))], [], (s, f, g, R))) (fun k w hk h' => ?_) N z (Nat.le_refl N) ?_
    · refine e_X10_spreads_17 _ _ _ _ _ _ ?_
      rw [hM.r10, Option.bind_some, show (0 : Int32) = nI 0 from rfl, hM.a2 (show 0 < 6 by decide), Option.bind_some, hN, d_le (by omega) (by omega), decide_eq_false (show ¬ N ≤ k by omega), cond_false, b_bit (by omega), ub_n1, hM.r13, Option.bind_some, hM.a5 (show k < 16 by omega), Option.bind_some, nI_1, show w ||| nI 0 = w from i_or0 w]
      cases hq : bt w k with
      | true => rw [hq] at h'; exact h'
      | false => rw [hq] at h'; exact h'
    · refine e_X10_spreads_17 _ _ _ _ _ _ ?_
      rw [hM.r10, Option.bind_some, show (0 : Int32) = nI 0 from rfl, hM.a2 (show 0 < 6 by decide), Option.bind_some, hN, d_le (by omega) (by omega), decide_eq_true (Nat.le_refl N), cond_true, nI_1]
      exact h
  · exact e_X10_spreads_7 _ _ _ _ _ rfl
end URB2

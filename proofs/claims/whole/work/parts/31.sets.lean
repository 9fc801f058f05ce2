/-! BITS (begun from kit/laws/BITS.to-paste) and small sets, loops -/
def bt (x : Int32) (i : Nat) : Bool := x.toBitVec.getLsbD i
theorem b_ext {x y : Int32} (h : ∀ i, i < 32 → bt x i = bt y i) : x = y := Int32.toBitVec_inj.mp (BitVec.eq_of_getLsbD_eq (fun i hi => h i hi))
theorem b_or (x y : Int32) (i : Nat) : bt (x ||| y) i = (bt x i || bt y i) := by unfold bt; rw [Int32.toBitVec_or, BitVec.getLsbD_or]
theorem b_and (x y : Int32) (i : Nat) : bt (x &&& y) i = (bt x i && bt y i) := by unfold bt; rw [Int32.toBitVec_and, BitVec.getLsbD_and]
theorem b_xor (x y : Int32) (i : Nat) : bt (x ^^^ y) i = (bt x i ^^ bt y i) := by unfold bt; rw [Int32.toBitVec_xor, BitVec.getLsbD_xor]
theorem b_big {x : Int32} {i : Nat} (h : 32 ≤ i) : bt x i = false := BitVec.getLsbD_of_ge _ _ h
theorem b_255 (i : Nat) : bt 255 i = decide (i < 8) := by
  rcases Nat.lt_or_ge i 32 with h | h
  · exact (by decide +kernel : ∀ i, i < 32 → bt 255 i = decide (i < 8)) i h
  · rw [b_big h, decide_eq_false (by omega)]
theorem b_65535 (i : Nat) : bt 65535 i = decide (i < 16) := by
  rcases Nat.lt_or_ge i 32 with h | h
  · exact (by decide +kernel : ∀ i, i < 32 → bt 65535 i = decide (i < 16)) i h
  · rw [b_big h, decide_eq_false (by omega)]
theorem b_m1 : ∀ i, i < 32 → bt (-1) i = true := by decide +kernel
theorem b_0 (i : Nat) : bt 0 i = false := BitVec.getLsbD_zero
theorem s_l : ∀ n, n < 32 → ((nI n &&& 31).toBitVec.smod 32).toNat = n := by decide +kernel
theorem s_u : ∀ n, n < 32 → (((nI n).toUInt32 &&& Int32.toUInt32 31).toBitVec % 32).toNat = n := by decide +kernel
theorem b_shl (n : Nat) (hn : n < 32) (x : Int32) {i : Nat} (hi : i < 32) : bt (x <<< (nI n &&& 31)) i = (decide (n ≤ i) && bt x (i - n)) := by
  unfold bt
  rw [Int32.toBitVec_shiftLeft]
  show (x.toBitVec <<< ((nI n &&& 31).toBitVec.smod 32).toNat).getLsbD i = _
  rw [s_l n hn, BitVec.getLsbD_shiftLeft]
  rcases Nat.lt_or_ge i n with h | h
  · simp [h, Nat.not_le.mpr h]
  · simp [hi, h, Nat.not_lt.mpr h]
theorem b_ushr (n : Nat) (hn : n < 32) (x : Int32) (i : Nat) : bt ((x.toUInt32 >>> ((nI n).toUInt32 &&& Int32.toUInt32 31)).toInt32) i = bt x (n + i) := by
  show (x.toUInt32 >>> ((nI n).toUInt32 &&& Int32.toUInt32 31)).toBitVec.getLsbD i = x.toUInt32.toBitVec.getLsbD (n + i)
  rw [UInt32.toBitVec_shiftRight]
  show (x.toUInt32.toBitVec >>> (((nI n).toUInt32 &&& Int32.toUInt32 31).toBitVec % 32).toNat).getLsbD i = _
  rw [s_u n hn, BitVec.getLsbD_ushiftRight]
theorem b_sshr (n : Nat) (hn : n < 32) (x : Int32) {i : Nat} (hi : i < 32) : bt (x >>> (nI n &&& 31)) i = if n + i < 32 then bt x (n + i) else bt x 31 := by
  unfold bt
  rw [Int32.toBitVec_shiftRight]
  show (x.toBitVec.sshiftRight ((nI n &&& 31).toBitVec.smod 32).toNat).getLsbD i = _
  rw [s_l n hn, BitVec.getLsbD_sshiftRight, BitVec.msb_eq_getLsbD_last]
  simp [hi]
-- sets of small numbers as ints
theorem b_one {n i : Nat} (hn : n < 32) (hi : i < 32) : bt ((1 : Int32) <<< (nI n &&& 31)) i = decide (i = n) := by
  rw [b_shl n hn 1 hi]
  have h1 : ∀ k, k < 32 → bt 1 k = decide (k = 0) := by decide +kernel
  rw [h1 (i - n) (by omega)]
  by_cases h : i = n
  · subst h; simp
  · by_cases h2 : n ≤ i
    · simp [h, h2]; omega
    · simp [h, h2]
def sB (P : Nat → Bool) : Nat → Int32
  | 0 => 0
  | n + 1 => sB P n ||| (bif P n then (1 : Int32) <<< (nI n &&& 31) else 0)
theorem sB_bt (P : Nat → Bool) : ∀ (n : Nat), n ≤ 32 → ∀ i, i < 32 → bt (sB P n) i = (decide (i < n) && P i)
  | 0, _, i, _ => by simp [sB, b_0]
  | n + 1, hn, i, hi => by
    rw [sB, b_or, sB_bt P n (by omega) i hi]
    cases hp : P n with
    | true =>
      simp only [cond_true]
      rw [b_one (by omega) hi]
      by_cases h : i = n
      · subst h; simp [hp]
      · by_cases h2 : i < n
        · simp [h, h2, show i < n + 1 by omega]
        · simp [h, h2, show ¬ i < n + 1 by omega]
    | false =>
      simp only [cond_false, b_0, Bool.or_false]
      by_cases h : i = n
      · subst h; simp [hp]
      · by_cases h2 : i < n
        · simp [h2, show i < n + 1 by omega]
        · simp [h2, show ¬ i < n + 1 by omega]
theorem sB_congr {P Q : Nat → Bool} : ∀ {n : Nat}, (∀ i, i < n → P i = Q i) → sB P n = sB Q n
  | 0, _ => rfl
  | n + 1, h => by rw [sB, sB, sB_congr (fun i hi => h i (by omega)), h n (by omega)]
/-- the code's bit -/
theorem b_bit {j : Nat} (hj : j < 32) (x : Int32) : (x >>> (nI j &&& 31)) &&& 1 = ur_b (bt x j) := by
  apply b_ext
  intro i hi
  have h1 : ∀ k, k < 32 → bt 1 k = decide (k = 0) := by decide +kernel
  rw [b_and, b_sshr j hj x hi, h1 i hi]
  by_cases h : i = 0
  · subst h
    simp only [Nat.add_zero, hj, if_true, decide_true, Bool.and_true, ur_b]
    cases bt x j with
    | true => exact (h1 0 (by decide)).symm
    | false => exact (b_0 0).symm
  · simp only [h, decide_false, Bool.and_false, ur_b]
    cases bt x j with
    | true => simp only [cond_true]; rw [h1 i hi]; simp [h]
    | false => exact (b_0 i).symm
theorem ub_1 (c : Bool) : decide (ur_b c = 1) = c := by cases c <;> rfl
theorem ub_n1 (c : Bool) : decide (ur_b c ≠ 1) = !c := by cases c <;> rfl
theorem ub_0 (c : Bool) : decide (ur_b c = 0) = !c := by cases c <;> rfl
theorem ub_n0 (c : Bool) : decide (ur_b c ≠ 0) = c := by cases c <;> rfl
theorem ub_fit (c : Bool) : ur_fit 1 (ur_b c) = true := by cases c <;> rfl
theorem i_or0 (x : Int32) : x ||| 0 = x := by apply b_ext; intro i _; rw [b_or, b_0, Bool.or_false]
-- comparisons of small numbers
theorem d_le {a b : Nat} (ha : a < 2 ^ 31) (hb : b < 2 ^ 31) : decide (nI a ≤ nI b) = decide (a ≤ b) := by
  simp only [nI_leI ha hb]
theorem d_lt {a b : Nat} (ha : a < 2 ^ 31) (hb : b < 2 ^ 31) : decide (nI a < nI b) = decide (a < b) := by
  simp only [nI_ltI ha hb]
theorem d_eq {a b : Nat} (ha : a < 2 ^ 31) (hb : b < 2 ^ 31) : decide (nI a = nI b) = decide (a = b) := by
  simp only [nI_eq ha hb]
-- loops
def itr {σ : Type} (step : Nat → σ → σ) : Nat → σ → σ
  | 0, x => x
  | n + 1, x => step n (itr step n x)
theorem itr_loop {σ : Type} {step : Nat → σ → σ} {Fn : Nat → σ → Option ur_V} {n : Nat} {r : ur_V} (hstep : ∀ j x, j < n → Fn (j + 1) (step j x) = some r → Fn j x = some r) : ∀ (k : Nat) (x : σ), k ≤ n → Fn k (itr step k x) = some r → Fn 0 x = some r
  | 0, _, _, h => h
  | k + 1, x, hk, h => itr_loop hstep k x (by omega) (hstep k _ (by omega) h)
theorem sB_itr (P : Nat → Bool) : ∀ n, itr (fun j (x : Int32) => x ||| (bif P j then (1 : Int32) <<< (nI j &&& 31) else 0)) n 0 = sB P n
  | 0 => rfl
  | n + 1 => by rw [itr, sB_itr P n, sB]
/-- a loop that gathers a set -/
theorem sB_loop {P : Nat → Bool} {Fn : Nat → Int32 → Option ur_V} {n : Nat} {r : ur_V} (hstep : ∀ j x, j < n → Fn (j + 1) (x ||| (bif P j then (1 : Int32) <<< (nI j &&& 31) else 0)) = some r → Fn j x = some r) (h : Fn n (sB P n) = some r) : Fn 0 0 = some r :=
  itr_loop hstep n 0 (Nat.le_refl n) (by rw [sB_itr]; exact h)
theorem ur_cl {k d : Nat} {as : List Value} {m : ur_M} {r : ur_V} (h1 : ur_rcv (ur_G k) as m = true) (h2 : Nat.ble (ur_slots as).length (ur_G k).2.2.1 = true) (h : ur_at ur_G d k (ur_ent (ur_G k) as m) = some r) : ur_call ur_G (d + 1) k as m = some r := by
  rw [ur_call_s ur_G d k as m h1 h2]
  exact h

/-! LAYOUTS: where an object's arrays lie beside it; reads and writes. Memory is written (s, f, g, R) -/
def ur_b (c : Bool) : Int32 := bif c then 1 else 0
section URV
variable {s : List (Nat ⊕ (Nat × Nat))} {f : Nat → Nat → Int32} {g : Nat → Nat → Int64} {R : Nat → Nat → Option Nat} {a ci k t n j : Nat} {i v : Int32}
theorem vO (h : s[a]? = some (.inl ci)) : ur_isO (s, f, g, R) a ci = true := by
  simp only [ur_isO, h, beq_self_eq_true]
theorem vA (h : s[a]? = some (.inr (t, n))) : ur_isA (s, f, g, R) a t = some n := by
  simp only [ur_isA, h, beq_self_eq_true, cond_true]
theorem vfI (h : s[a]? = some (.inl ci)) (h20 : (ci == 20) = false) : ur_fI (s, f, g, R) a ci k = some (f a k) := by
  simp only [ur_fI, h20, cond_false, vO h, cond_true]
theorem vfL (h : s[a]? = some (.inl ci)) : ur_fL (s, f, g, R) a ci k = some (g a k) := by
  simp only [ur_fL, vO h, cond_true]
theorem vfR (h : s[a]? = some (.inl ci)) (h20 : (ci == 20) = false) {b : Nat} (hr : R a k = some b) (hb : b < ur_base) : ur_fR (s, f, g, R) a ci k = some b := by
  simp only [ur_fR, h20, cond_false, vO h, cond_true, ur_lo, hr, decide_eq_true hb]
theorem vpI (h : s[a]? = some (.inl ci)) : ur_pI (s, f, g, R) a ci k v = some (s, ur_u f a k v, g, R) := by
  simp only [ur_pI, vO h, cond_true]
theorem vpL {w : Int64} (h : s[a]? = some (.inl ci)) : ur_pL (s, f, g, R) a ci k w = some (s, f, ur_u g a k w, R) := by
  simp only [ur_pL, vO h, cond_true]
theorem vpR {b : Nat} (h : s[a]? = some (.inl ci)) (hb : b < ur_base) : ur_pR (s, f, g, R) a ci k b = some (s, f, g, ur_u R a k (some b)) := by
  simp only [ur_pR, vO h, decide_eq_true hb, Bool.and_self, cond_true]
theorem vpZ (h : s[a]? = some (.inl ci)) (hv : v = 0 ∨ v = 1) : ur_pZ (s, f, g, R) a ci k v = some (s, ur_u f a k v, g, R) := by
  rcases hv with rfl | rfl <;> exact vpI h
theorem v_inb (hj : j < n) (hn : n < 2 ^ 31) : ur_inb (nI j) n = true := by
  have h := nI_in hj hn
  unfold ur_inb
  rw [decide_eq_false (fun q => h (Or.inl q)), decide_eq_false (fun q => h (Or.inr q))]
  rfl
theorem vaI (h : s[a]? = some (.inr (t, n))) (hj : j < n) (hn : n < 2 ^ 31) : ur_aI (s, f, g, R) a t (nI j) = some (f a j) := by
  simp only [ur_aI, vA h, v_inb hj hn, cond_true, nI_clamp (Nat.lt_trans hj hn)]
theorem vaL (h : s[a]? = some (.inr (1, n))) (hj : j < n) (hn : n < 2 ^ 31) : ur_aL (s, f, g, R) a (nI j) = some (g a j) := by
  simp only [ur_aL, vA h, v_inb hj hn, cond_true, nI_clamp (Nat.lt_trans hj hn)]
theorem vwI (h : s[a]? = some (.inr (t, n))) (hj : j < n) (hn : n < 2 ^ 31) : ur_wI (s, f, g, R) a t (nI j) v = some (s, ur_u f a j v, g, R) := by
  simp only [ur_wI, vA h, v_inb hj hn, cond_true, nI_clamp (Nat.lt_trans hj hn)]
theorem vwL {w : Int64} (h : s[a]? = some (.inr (1, n))) (hj : j < n) (hn : n < 2 ^ 31) : ur_wL (s, f, g, R) a (nI j) w = some (s, f, ur_u g a j w, R) := by
  simp only [ur_wL, vA h, v_inb hj hn, cond_true, nI_clamp (Nat.lt_trans hj hn)]
theorem vaR (h : s[a]? = some (.inr (t, n))) (ht : t = 4 ∨ t = 5) (hj : j < n) (hn : n < 2 ^ 31) {b : Nat} (hr : R a j = some b) (hb : b < ur_base) : ur_aR (s, f, g, R) a (nI j) = some b := by
  simp only [ur_aR, h, v_inb hj hn, Bool.and_true, nI_clamp (Nat.lt_trans hj hn), ur_lo, hr, decide_eq_true hb, cond_true]
  rcases ht with rfl | rfl <;> rfl
theorem vlen (h : s[a]? = some (.inr (t, n))) (ht : t < 6) : ur_len (s, f, g, R) a = some (nI n) := by
  simp only [ur_len, h, show Nat.blt t 6 = true from Nat.ble_eq_true_of_le ht, cond_true]
  rfl
theorem vcpy {b p q : Nat} (ha : s[a]? = some (.inr (0, p))) (hb : s[b]? = some (.inr (0, q))) (hp : n ≤ p) (hq : n ≤ q) (hn : n < 2 ^ 31) : ur_cpy (s, f, g, R) a 0 b 0 (nI n) = some (s, ur_row f b (va_cpy (f a) (f b) 0 0 n), g, R) := by
  have h0 : (0 : Int32).toNatClampNeg = 0 := by decide
  simp only [ur_cpy, vA ha, vA hb, h0, nI_clamp hn, Nat.zero_add, decide_eq_true hp, decide_eq_true hq, decide_eq_true (nI_pos' hn), Bool.and_self, decide_eq_true (show (0 : Int32) ≤ 0 by decide), cond_true]
end URV
-- objects and their arrays
def oNight (s : List (Nat ⊕ (Nat × Nat))) (R : Nat → Nat → Option Nat) (a : Nat) : Prop := s[a]? = some (.inl 5) ∧ R a 0 = some (a + 1) ∧ R a 1 = some (a + 2) ∧ R a 2 = some (a + 3) ∧ R a 3 = some (a + 4) ∧ R a 4 = some (a + 5) ∧ s[a + 1]? = some (.inr (0, 5)) ∧ s[a + 2]? = some (.inr (0, 5)) ∧ s[a + 3]? = some (.inr (0, 5)) ∧ s[a + 4]? = some (.inr (0, 5)) ∧ s[a + 5]? = some (.inr (0, 5)) ∧ a + 6 ≤ 1000
section
variable {s : List (Nat ⊕ (Nat × Nat))} {f : Nat → Nat → Int32} {g : Nat → Nat → Int64} {R : Nat → Nat → Option Nat} {a k j : Nat} {v : Int32}
theorem oNight.o (h : oNight s R a) : s[a]? = some (.inl 5) := h.1
theorem oNight.I (h : oNight s R a) : ur_fI (s, f, g, R) a 5 k = some (f a k) := vfI h.1 rfl
theorem oNight.L (h : oNight s R a) : ur_fL (s, f, g, R) a 5 k = some (g a k) := vfL h.1
theorem oNight.pI (h : oNight s R a) : ur_pI (s, f, g, R) a 5 k v = some (s, ur_u f a k v, g, R) := vpI h.1
theorem oNight.pL (h : oNight s R a) {w : Int64} : ur_pL (s, f, g, R) a 5 k w = some (s, f, ur_u g a k w, R) := vpL h.1
theorem oNight.rcv (h : oNight s R a) : ur_isO (s, f, g, R) a 5 = true := vO h.1
theorem oNight.r0 (h : oNight s R a) : ur_fR (s, f, g, R) a 5 0 = some (a + 1) := vfR h.1 rfl h.2.1 (by have := h.2.2.2.2.2.2.2.2.2.2.2; unfold ur_base; omega)
theorem oNight.r1 (h : oNight s R a) : ur_fR (s, f, g, R) a 5 1 = some (a + 2) := vfR h.1 rfl h.2.2.1 (by have := h.2.2.2.2.2.2.2.2.2.2.2; unfold ur_base; omega)
theorem oNight.r2 (h : oNight s R a) : ur_fR (s, f, g, R) a 5 2 = some (a + 3) := vfR h.1 rfl h.2.2.2.1 (by have := h.2.2.2.2.2.2.2.2.2.2.2; unfold ur_base; omega)
theorem oNight.r3 (h : oNight s R a) : ur_fR (s, f, g, R) a 5 3 = some (a + 4) := vfR h.1 rfl h.2.2.2.2.1 (by have := h.2.2.2.2.2.2.2.2.2.2.2; unfold ur_base; omega)
theorem oNight.r4 (h : oNight s R a) : ur_fR (s, f, g, R) a 5 4 = some (a + 5) := vfR h.1 rfl h.2.2.2.2.2.1 (by have := h.2.2.2.2.2.2.2.2.2.2.2; unfold ur_base; omega)
theorem oNight.a1 (h : oNight s R a) (hj : j < 5) : ur_aI (s, f, g, R) (a + 1) 0 (nI j) = some (f (a + 1) j) := vaI h.2.2.2.2.2.2.1 hj (by decide)
theorem oNight.w1 (h : oNight s R a) (hj : j < 5) : ur_wI (s, f, g, R) (a + 1) 0 (nI j) v = some (s, ur_u f (a + 1) j v, g, R) := vwI h.2.2.2.2.2.2.1 hj (by decide)
theorem oNight.s1 (h : oNight s R a) : s[a + 1]? = some (.inr (0, 5)) := h.2.2.2.2.2.2.1
theorem oNight.a2 (h : oNight s R a) (hj : j < 5) : ur_aI (s, f, g, R) (a + 2) 0 (nI j) = some (f (a + 2) j) := vaI h.2.2.2.2.2.2.2.1 hj (by decide)
theorem oNight.w2 (h : oNight s R a) (hj : j < 5) : ur_wI (s, f, g, R) (a + 2) 0 (nI j) v = some (s, ur_u f (a + 2) j v, g, R) := vwI h.2.2.2.2.2.2.2.1 hj (by decide)
theorem oNight.s2 (h : oNight s R a) : s[a + 2]? = some (.inr (0, 5)) := h.2.2.2.2.2.2.2.1
theorem oNight.a3 (h : oNight s R a) (hj : j < 5) : ur_aI (s, f, g, R) (a + 3) 0 (nI j) = some (f (a + 3) j) := vaI h.2.2.2.2.2.2.2.2.1 hj (by decide)
theorem oNight.w3 (h : oNight s R a) (hj : j < 5) : ur_wI (s, f, g, R) (a + 3) 0 (nI j) v = some (s, ur_u f (a + 3) j v, g, R) := vwI h.2.2.2.2.2.2.2.2.1 hj (by decide)
theorem oNight.s3 (h : oNight s R a) : s[a + 3]? = some (.inr (0, 5)) := h.2.2.2.2.2.2.2.2.1
theorem oNight.a4 (h : oNight s R a) (hj : j < 5) : ur_aI (s, f, g, R) (a + 4) 0 (nI j) = some (f (a + 4) j) := vaI h.2.2.2.2.2.2.2.2.2.1 hj (by decide)
theorem oNight.w4 (h : oNight s R a) (hj : j < 5) : ur_wI (s, f, g, R) (a + 4) 0 (nI j) v = some (s, ur_u f (a + 4) j v, g, R) := vwI h.2.2.2.2.2.2.2.2.2.1 hj (by decide)
theorem oNight.s4 (h : oNight s R a) : s[a + 4]? = some (.inr (0, 5)) := h.2.2.2.2.2.2.2.2.2.1
theorem oNight.a5 (h : oNight s R a) (hj : j < 5) : ur_aI (s, f, g, R) (a + 5) 0 (nI j) = some (f (a + 5) j) := vaI h.2.2.2.2.2.2.2.2.2.2.1 hj (by decide)
theorem oNight.w5 (h : oNight s R a) (hj : j < 5) : ur_wI (s, f, g, R) (a + 5) 0 (nI j) v = some (s, ur_u f (a + 5) j v, g, R) := vwI h.2.2.2.2.2.2.2.2.2.2.1 hj (by decide)
theorem oNight.s5 (h : oNight s R a) : s[a + 5]? = some (.inr (0, 5)) := h.2.2.2.2.2.2.2.2.2.2.1
theorem oNight.le (h : oNight s R a) : a + 6 ≤ 1000 := h.2.2.2.2.2.2.2.2.2.2.2
end
def oLaw (s : List (Nat ⊕ (Nat × Nat))) (R : Nat → Nat → Option Nat) (a : Nat) : Prop := s[a]? = some (.inl 2) ∧ R a 0 = some (a + 1) ∧ R a 1 = some (a + 2) ∧ s[a + 1]? = some (.inr (0, 1000)) ∧ s[a + 2]? = some (.inr (0, 32)) ∧ a + 3 ≤ 1000
section
variable {s : List (Nat ⊕ (Nat × Nat))} {f : Nat → Nat → Int32} {g : Nat → Nat → Int64} {R : Nat → Nat → Option Nat} {a k j : Nat} {v : Int32}
theorem oLaw.o (h : oLaw s R a) : s[a]? = some (.inl 2) := h.1
theorem oLaw.I (h : oLaw s R a) : ur_fI (s, f, g, R) a 2 k = some (f a k) := vfI h.1 rfl
theorem oLaw.L (h : oLaw s R a) : ur_fL (s, f, g, R) a 2 k = some (g a k) := vfL h.1
theorem oLaw.pI (h : oLaw s R a) : ur_pI (s, f, g, R) a 2 k v = some (s, ur_u f a k v, g, R) := vpI h.1
theorem oLaw.pL (h : oLaw s R a) {w : Int64} : ur_pL (s, f, g, R) a 2 k w = some (s, f, ur_u g a k w, R) := vpL h.1
theorem oLaw.rcv (h : oLaw s R a) : ur_isO (s, f, g, R) a 2 = true := vO h.1
theorem oLaw.r0 (h : oLaw s R a) : ur_fR (s, f, g, R) a 2 0 = some (a + 1) := vfR h.1 rfl h.2.1 (by have := h.2.2.2.2.2; unfold ur_base; omega)
theorem oLaw.r1 (h : oLaw s R a) : ur_fR (s, f, g, R) a 2 1 = some (a + 2) := vfR h.1 rfl h.2.2.1 (by have := h.2.2.2.2.2; unfold ur_base; omega)
theorem oLaw.a1 (h : oLaw s R a) (hj : j < 1000) : ur_aI (s, f, g, R) (a + 1) 0 (nI j) = some (f (a + 1) j) := vaI h.2.2.2.1 hj (by decide)
theorem oLaw.w1 (h : oLaw s R a) (hj : j < 1000) : ur_wI (s, f, g, R) (a + 1) 0 (nI j) v = some (s, ur_u f (a + 1) j v, g, R) := vwI h.2.2.2.1 hj (by decide)
theorem oLaw.s1 (h : oLaw s R a) : s[a + 1]? = some (.inr (0, 1000)) := h.2.2.2.1
theorem oLaw.a2 (h : oLaw s R a) (hj : j < 32) : ur_aI (s, f, g, R) (a + 2) 0 (nI j) = some (f (a + 2) j) := vaI h.2.2.2.2.1 hj (by decide)
theorem oLaw.w2 (h : oLaw s R a) (hj : j < 32) : ur_wI (s, f, g, R) (a + 2) 0 (nI j) v = some (s, ur_u f (a + 2) j v, g, R) := vwI h.2.2.2.2.1 hj (by decide)
theorem oLaw.s2 (h : oLaw s R a) : s[a + 2]? = some (.inr (0, 32)) := h.2.2.2.2.1
theorem oLaw.le (h : oLaw s R a) : a + 3 ≤ 1000 := h.2.2.2.2.2
end
def oLand (s : List (Nat ⊕ (Nat × Nat))) (R : Nat → Nat → Option Nat) (a : Nat) : Prop := s[a]? = some (.inl 1) ∧ R a 0 = some (a + 1) ∧ R a 1 = some (a + 2) ∧ R a 2 = some (a + 3) ∧ R a 3 = some (a + 4) ∧ R a 4 = some (a + 5) ∧ R a 5 = some (a + 6) ∧ R a 6 = some (a + 7) ∧ R a 7 = some (a + 8) ∧ s[a + 1]? = some (.inr (1, 8)) ∧ s[a + 2]? = some (.inr (0, 8)) ∧ s[a + 3]? = some (.inr (0, 8)) ∧ s[a + 4]? = some (.inr (1, 5)) ∧ s[a + 5]? = some (.inr (0, 5)) ∧ s[a + 6]? = some (.inr (0, 5)) ∧ s[a + 7]? = some (.inr (0, 5)) ∧ oLaw s R (a + 8) ∧ a + 11 ≤ 1000
section
variable {s : List (Nat ⊕ (Nat × Nat))} {f : Nat → Nat → Int32} {g : Nat → Nat → Int64} {R : Nat → Nat → Option Nat} {a k j : Nat} {v : Int32}
theorem oLand.o (h : oLand s R a) : s[a]? = some (.inl 1) := h.1
theorem oLand.I (h : oLand s R a) : ur_fI (s, f, g, R) a 1 k = some (f a k) := vfI h.1 rfl
theorem oLand.L (h : oLand s R a) : ur_fL (s, f, g, R) a 1 k = some (g a k) := vfL h.1
theorem oLand.pI (h : oLand s R a) : ur_pI (s, f, g, R) a 1 k v = some (s, ur_u f a k v, g, R) := vpI h.1
theorem oLand.pL (h : oLand s R a) {w : Int64} : ur_pL (s, f, g, R) a 1 k w = some (s, f, ur_u g a k w, R) := vpL h.1
theorem oLand.rcv (h : oLand s R a) : ur_isO (s, f, g, R) a 1 = true := vO h.1
theorem oLand.r0 (h : oLand s R a) : ur_fR (s, f, g, R) a 1 0 = some (a + 1) := vfR h.1 rfl h.2.1 (by have := h.2.2.2.2.2.2.2.2.2.2.2.2.2.2.2.2.2; unfold ur_base; omega)
theorem oLand.r1 (h : oLand s R a) : ur_fR (s, f, g, R) a 1 1 = some (a + 2) := vfR h.1 rfl h.2.2.1 (by have := h.2.2.2.2.2.2.2.2.2.2.2.2.2.2.2.2.2; unfold ur_base; omega)
theorem oLand.r2 (h : oLand s R a) : ur_fR (s, f, g, R) a 1 2 = some (a + 3) := vfR h.1 rfl h.2.2.2.1 (by have := h.2.2.2.2.2.2.2.2.2.2.2.2.2.2.2.2.2; unfold ur_base; omega)
theorem oLand.r3 (h : oLand s R a) : ur_fR (s, f, g, R) a 1 3 = some (a + 4) := vfR h.1 rfl h.2.2.2.2.1 (by have := h.2.2.2.2.2.2.2.2.2.2.2.2.2.2.2.2.2; unfold ur_base; omega)
theorem oLand.r4 (h : oLand s R a) : ur_fR (s, f, g, R) a 1 4 = some (a + 5) := vfR h.1 rfl h.2.2.2.2.2.1 (by have := h.2.2.2.2.2.2.2.2.2.2.2.2.2.2.2.2.2; unfold ur_base; omega)
theorem oLand.r5 (h : oLand s R a) : ur_fR (s, f, g, R) a 1 5 = some (a + 6) := vfR h.1 rfl h.2.2.2.2.2.2.1 (by have := h.2.2.2.2.2.2.2.2.2.2.2.2.2.2.2.2.2; unfold ur_base; omega)
theorem oLand.r6 (h : oLand s R a) : ur_fR (s, f, g, R) a 1 6 = some (a + 7) := vfR h.1 rfl h.2.2.2.2.2.2.2.1 (by have := h.2.2.2.2.2.2.2.2.2.2.2.2.2.2.2.2.2; unfold ur_base; omega)
theorem oLand.r7 (h : oLand s R a) : ur_fR (s, f, g, R) a 1 7 = some (a + 8) := vfR h.1 rfl h.2.2.2.2.2.2.2.2.1 (by have := h.2.2.2.2.2.2.2.2.2.2.2.2.2.2.2.2.2; unfold ur_base; omega)
theorem oLand.a1 (h : oLand s R a) (hj : j < 8) : ur_aL (s, f, g, R) (a + 1) (nI j) = some (g (a + 1) j) := vaL h.2.2.2.2.2.2.2.2.2.1 hj (by decide)
theorem oLand.w1 (h : oLand s R a) {w : Int64} (hj : j < 8) : ur_wL (s, f, g, R) (a + 1) (nI j) w = some (s, f, ur_u g (a + 1) j w, R) := vwL h.2.2.2.2.2.2.2.2.2.1 hj (by decide)
theorem oLand.s1 (h : oLand s R a) : s[a + 1]? = some (.inr (1, 8)) := h.2.2.2.2.2.2.2.2.2.1
theorem oLand.a2 (h : oLand s R a) (hj : j < 8) : ur_aI (s, f, g, R) (a + 2) 0 (nI j) = some (f (a + 2) j) := vaI h.2.2.2.2.2.2.2.2.2.2.1 hj (by decide)
theorem oLand.w2 (h : oLand s R a) (hj : j < 8) : ur_wI (s, f, g, R) (a + 2) 0 (nI j) v = some (s, ur_u f (a + 2) j v, g, R) := vwI h.2.2.2.2.2.2.2.2.2.2.1 hj (by decide)
theorem oLand.s2 (h : oLand s R a) : s[a + 2]? = some (.inr (0, 8)) := h.2.2.2.2.2.2.2.2.2.2.1
theorem oLand.a3 (h : oLand s R a) (hj : j < 8) : ur_aI (s, f, g, R) (a + 3) 0 (nI j) = some (f (a + 3) j) := vaI h.2.2.2.2.2.2.2.2.2.2.2.1 hj (by decide)
theorem oLand.w3 (h : oLand s R a) (hj : j < 8) : ur_wI (s, f, g, R) (a + 3) 0 (nI j) v = some (s, ur_u f (a + 3) j v, g, R) := vwI h.2.2.2.2.2.2.2.2.2.2.2.1 hj (by decide)
theorem oLand.s3 (h : oLand s R a) : s[a + 3]? = some (.inr (0, 8)) := h.2.2.2.2.2.2.2.2.2.2.2.1
theorem oLand.a4 (h : oLand s R a) (hj : j < 5) : ur_aL (s, f, g, R) (a + 4) (nI j) = some (g (a + 4) j) := vaL h.2.2.2.2.2.2.2.2.2.2.2.2.1 hj (by decide)
theorem oLand.w4 (h : oLand s R a) {w : Int64} (hj : j < 5) : ur_wL (s, f, g, R) (a + 4) (nI j) w = some (s, f, ur_u g (a + 4) j w, R) := vwL h.2.2.2.2.2.2.2.2.2.2.2.2.1 hj (by decide)
theorem oLand.s4 (h : oLand s R a) : s[a + 4]? = some (.inr (1, 5)) := h.2.2.2.2.2.2.2.2.2.2.2.2.1
theorem oLand.a5 (h : oLand s R a) (hj : j < 5) : ur_aI (s, f, g, R) (a + 5) 0 (nI j) = some (f (a + 5) j) := vaI h.2.2.2.2.2.2.2.2.2.2.2.2.2.1 hj (by decide)
theorem oLand.w5 (h : oLand s R a) (hj : j < 5) : ur_wI (s, f, g, R) (a + 5) 0 (nI j) v = some (s, ur_u f (a + 5) j v, g, R) := vwI h.2.2.2.2.2.2.2.2.2.2.2.2.2.1 hj (by decide)
theorem oLand.s5 (h : oLand s R a) : s[a + 5]? = some (.inr (0, 5)) := h.2.2.2.2.2.2.2.2.2.2.2.2.2.1
theorem oLand.a6 (h : oLand s R a) (hj : j < 5) : ur_aI (s, f, g, R) (a + 6) 0 (nI j) = some (f (a + 6) j) := vaI h.2.2.2.2.2.2.2.2.2.2.2.2.2.2.1 hj (by decide)
theorem oLand.w6 (h : oLand s R a) (hj : j < 5) : ur_wI (s, f, g, R) (a + 6) 0 (nI j) v = some (s, ur_u f (a + 6) j v, g, R) := vwI h.2.2.2.2.2.2.2.2.2.2.2.2.2.2.1 hj (by decide)
theorem oLand.s6 (h : oLand s R a) : s[a + 6]? = some (.inr (0, 5)) := h.2.2.2.2.2.2.2.2.2.2.2.2.2.2.1
theorem oLand.a7 (h : oLand s R a) (hj : j < 5) : ur_aI (s, f, g, R) (a + 7) 0 (nI j) = some (f (a + 7) j) := vaI h.2.2.2.2.2.2.2.2.2.2.2.2.2.2.2.1 hj (by decide)
theorem oLand.w7 (h : oLand s R a) (hj : j < 5) : ur_wI (s, f, g, R) (a + 7) 0 (nI j) v = some (s, ur_u f (a + 7) j v, g, R) := vwI h.2.2.2.2.2.2.2.2.2.2.2.2.2.2.2.1 hj (by decide)
theorem oLand.s7 (h : oLand s R a) : s[a + 7]? = some (.inr (0, 5)) := h.2.2.2.2.2.2.2.2.2.2.2.2.2.2.2.1
theorem oLand.oLaw8 (h : oLand s R a) : oLaw s R (a + 8) := h.2.2.2.2.2.2.2.2.2.2.2.2.2.2.2.2.1
theorem oLand.le (h : oLand s R a) : a + 11 ≤ 1000 := h.2.2.2.2.2.2.2.2.2.2.2.2.2.2.2.2.2
end
def oTape (s : List (Nat ⊕ (Nat × Nat))) (R : Nat → Nat → Option Nat) (a : Nat) : Prop := s[a]? = some (.inl 8) ∧ R a 0 = some (a + 1) ∧ s[a + 1]? = some (.inr (3, 1000)) ∧ a + 2 ≤ 1000
section
variable {s : List (Nat ⊕ (Nat × Nat))} {f : Nat → Nat → Int32} {g : Nat → Nat → Int64} {R : Nat → Nat → Option Nat} {a k j : Nat} {v : Int32}
theorem oTape.o (h : oTape s R a) : s[a]? = some (.inl 8) := h.1
theorem oTape.I (h : oTape s R a) : ur_fI (s, f, g, R) a 8 k = some (f a k) := vfI h.1 rfl
theorem oTape.L (h : oTape s R a) : ur_fL (s, f, g, R) a 8 k = some (g a k) := vfL h.1
theorem oTape.pI (h : oTape s R a) : ur_pI (s, f, g, R) a 8 k v = some (s, ur_u f a k v, g, R) := vpI h.1
theorem oTape.pL (h : oTape s R a) {w : Int64} : ur_pL (s, f, g, R) a 8 k w = some (s, f, ur_u g a k w, R) := vpL h.1
theorem oTape.rcv (h : oTape s R a) : ur_isO (s, f, g, R) a 8 = true := vO h.1
theorem oTape.r0 (h : oTape s R a) : ur_fR (s, f, g, R) a 8 0 = some (a + 1) := vfR h.1 rfl h.2.1 (by have := h.2.2.2; unfold ur_base; omega)
theorem oTape.a1 (h : oTape s R a) (hj : j < 1000) : ur_aI (s, f, g, R) (a + 1) 3 (nI j) = some (f (a + 1) j) := vaI h.2.2.1 hj (by decide)
theorem oTape.w1 (h : oTape s R a) (hj : j < 1000) : ur_wI (s, f, g, R) (a + 1) 3 (nI j) v = some (s, ur_u f (a + 1) j v, g, R) := vwI h.2.2.1 hj (by decide)
theorem oTape.s1 (h : oTape s R a) : s[a + 1]? = some (.inr (3, 1000)) := h.2.2.1
theorem oTape.le (h : oTape s R a) : a + 2 ≤ 1000 := h.2.2.2
end
def oScript (s : List (Nat ⊕ (Nat × Nat))) (R : Nat → Nat → Option Nat) (a : Nat) : Prop := s[a]? = some (.inl 6) ∧ R a 0 = some (a + 1) ∧ R a 1 = some (a + 2) ∧ R a 2 = some (a + 3) ∧ s[a + 1]? = some (.inr (0, 40)) ∧ s[a + 2]? = some (.inr (0, 40)) ∧ s[a + 3]? = some (.inr (0, 40)) ∧ a + 4 ≤ 1000
section
variable {s : List (Nat ⊕ (Nat × Nat))} {f : Nat → Nat → Int32} {g : Nat → Nat → Int64} {R : Nat → Nat → Option Nat} {a k j : Nat} {v : Int32}
theorem oScript.o (h : oScript s R a) : s[a]? = some (.inl 6) := h.1
theorem oScript.I (h : oScript s R a) : ur_fI (s, f, g, R) a 6 k = some (f a k) := vfI h.1 rfl
theorem oScript.L (h : oScript s R a) : ur_fL (s, f, g, R) a 6 k = some (g a k) := vfL h.1
theorem oScript.pI (h : oScript s R a) : ur_pI (s, f, g, R) a 6 k v = some (s, ur_u f a k v, g, R) := vpI h.1
theorem oScript.pL (h : oScript s R a) {w : Int64} : ur_pL (s, f, g, R) a 6 k w = some (s, f, ur_u g a k w, R) := vpL h.1
theorem oScript.rcv (h : oScript s R a) : ur_isO (s, f, g, R) a 6 = true := vO h.1
theorem oScript.r0 (h : oScript s R a) : ur_fR (s, f, g, R) a 6 0 = some (a + 1) := vfR h.1 rfl h.2.1 (by have := h.2.2.2.2.2.2.2; unfold ur_base; omega)
theorem oScript.r1 (h : oScript s R a) : ur_fR (s, f, g, R) a 6 1 = some (a + 2) := vfR h.1 rfl h.2.2.1 (by have := h.2.2.2.2.2.2.2; unfold ur_base; omega)
theorem oScript.r2 (h : oScript s R a) : ur_fR (s, f, g, R) a 6 2 = some (a + 3) := vfR h.1 rfl h.2.2.2.1 (by have := h.2.2.2.2.2.2.2; unfold ur_base; omega)
theorem oScript.a1 (h : oScript s R a) (hj : j < 40) : ur_aI (s, f, g, R) (a + 1) 0 (nI j) = some (f (a + 1) j) := vaI h.2.2.2.2.1 hj (by decide)
theorem oScript.w1 (h : oScript s R a) (hj : j < 40) : ur_wI (s, f, g, R) (a + 1) 0 (nI j) v = some (s, ur_u f (a + 1) j v, g, R) := vwI h.2.2.2.2.1 hj (by decide)
theorem oScript.s1 (h : oScript s R a) : s[a + 1]? = some (.inr (0, 40)) := h.2.2.2.2.1
theorem oScript.a2 (h : oScript s R a) (hj : j < 40) : ur_aI (s, f, g, R) (a + 2) 0 (nI j) = some (f (a + 2) j) := vaI h.2.2.2.2.2.1 hj (by decide)
theorem oScript.w2 (h : oScript s R a) (hj : j < 40) : ur_wI (s, f, g, R) (a + 2) 0 (nI j) v = some (s, ur_u f (a + 2) j v, g, R) := vwI h.2.2.2.2.2.1 hj (by decide)
theorem oScript.s2 (h : oScript s R a) : s[a + 2]? = some (.inr (0, 40)) := h.2.2.2.2.2.1
theorem oScript.a3 (h : oScript s R a) (hj : j < 40) : ur_aI (s, f, g, R) (a + 3) 0 (nI j) = some (f (a + 3) j) := vaI h.2.2.2.2.2.2.1 hj (by decide)
theorem oScript.w3 (h : oScript s R a) (hj : j < 40) : ur_wI (s, f, g, R) (a + 3) 0 (nI j) v = some (s, ur_u f (a + 3) j v, g, R) := vwI h.2.2.2.2.2.2.1 hj (by decide)
theorem oScript.s3 (h : oScript s R a) : s[a + 3]? = some (.inr (0, 40)) := h.2.2.2.2.2.2.1
theorem oScript.le (h : oScript s R a) : a + 4 ≤ 1000 := h.2.2.2.2.2.2.2
end
def oSeen (s : List (Nat ⊕ (Nat × Nat))) (R : Nat → Nat → Option Nat) (a : Nat) : Prop := s[a]? = some (.inl 7) ∧ R a 0 = some (a + 1) ∧ R a 1 = some (a + 2) ∧ s[a + 1]? = some (.inr (0, 8)) ∧ s[a + 2]? = some (.inr (0, 8)) ∧ a + 3 ≤ 1000
section
variable {s : List (Nat ⊕ (Nat × Nat))} {f : Nat → Nat → Int32} {g : Nat → Nat → Int64} {R : Nat → Nat → Option Nat} {a k j : Nat} {v : Int32}
theorem oSeen.o (h : oSeen s R a) : s[a]? = some (.inl 7) := h.1
theorem oSeen.I (h : oSeen s R a) : ur_fI (s, f, g, R) a 7 k = some (f a k) := vfI h.1 rfl
theorem oSeen.L (h : oSeen s R a) : ur_fL (s, f, g, R) a 7 k = some (g a k) := vfL h.1
theorem oSeen.pI (h : oSeen s R a) : ur_pI (s, f, g, R) a 7 k v = some (s, ur_u f a k v, g, R) := vpI h.1
theorem oSeen.pL (h : oSeen s R a) {w : Int64} : ur_pL (s, f, g, R) a 7 k w = some (s, f, ur_u g a k w, R) := vpL h.1
theorem oSeen.rcv (h : oSeen s R a) : ur_isO (s, f, g, R) a 7 = true := vO h.1
theorem oSeen.r0 (h : oSeen s R a) : ur_fR (s, f, g, R) a 7 0 = some (a + 1) := vfR h.1 rfl h.2.1 (by have := h.2.2.2.2.2; unfold ur_base; omega)
theorem oSeen.r1 (h : oSeen s R a) : ur_fR (s, f, g, R) a 7 1 = some (a + 2) := vfR h.1 rfl h.2.2.1 (by have := h.2.2.2.2.2; unfold ur_base; omega)
theorem oSeen.a1 (h : oSeen s R a) (hj : j < 8) : ur_aI (s, f, g, R) (a + 1) 0 (nI j) = some (f (a + 1) j) := vaI h.2.2.2.1 hj (by decide)
theorem oSeen.w1 (h : oSeen s R a) (hj : j < 8) : ur_wI (s, f, g, R) (a + 1) 0 (nI j) v = some (s, ur_u f (a + 1) j v, g, R) := vwI h.2.2.2.1 hj (by decide)
theorem oSeen.s1 (h : oSeen s R a) : s[a + 1]? = some (.inr (0, 8)) := h.2.2.2.1
theorem oSeen.a2 (h : oSeen s R a) (hj : j < 8) : ur_aI (s, f, g, R) (a + 2) 0 (nI j) = some (f (a + 2) j) := vaI h.2.2.2.2.1 hj (by decide)
theorem oSeen.w2 (h : oSeen s R a) (hj : j < 8) : ur_wI (s, f, g, R) (a + 2) 0 (nI j) v = some (s, ur_u f (a + 2) j v, g, R) := vwI h.2.2.2.2.1 hj (by decide)
theorem oSeen.s2 (h : oSeen s R a) : s[a + 2]? = some (.inr (0, 8)) := h.2.2.2.2.1
theorem oSeen.le (h : oSeen s R a) : a + 3 ≤ 1000 := h.2.2.2.2.2
end
def oLine (s : List (Nat ⊕ (Nat × Nat))) (R : Nat → Nat → Option Nat) (a : Nat) : Prop := s[a]? = some (.inl 3) ∧ R a 0 = some (a + 1) ∧ R a 1 = some (a + 2) ∧ R a 2 = some (a + 3) ∧ s[a + 1]? = some (.inr (0, 5)) ∧ s[a + 2]? = some (.inr (0, 5)) ∧ s[a + 3]? = some (.inr (0, 25)) ∧ a + 4 ≤ 1000
section
variable {s : List (Nat ⊕ (Nat × Nat))} {f : Nat → Nat → Int32} {g : Nat → Nat → Int64} {R : Nat → Nat → Option Nat} {a k j : Nat} {v : Int32}
theorem oLine.o (h : oLine s R a) : s[a]? = some (.inl 3) := h.1
theorem oLine.I (h : oLine s R a) : ur_fI (s, f, g, R) a 3 k = some (f a k) := vfI h.1 rfl
theorem oLine.L (h : oLine s R a) : ur_fL (s, f, g, R) a 3 k = some (g a k) := vfL h.1
theorem oLine.pI (h : oLine s R a) : ur_pI (s, f, g, R) a 3 k v = some (s, ur_u f a k v, g, R) := vpI h.1
theorem oLine.pL (h : oLine s R a) {w : Int64} : ur_pL (s, f, g, R) a 3 k w = some (s, f, ur_u g a k w, R) := vpL h.1
theorem oLine.rcv (h : oLine s R a) : ur_isO (s, f, g, R) a 3 = true := vO h.1
theorem oLine.r0 (h : oLine s R a) : ur_fR (s, f, g, R) a 3 0 = some (a + 1) := vfR h.1 rfl h.2.1 (by have := h.2.2.2.2.2.2.2; unfold ur_base; omega)
theorem oLine.r1 (h : oLine s R a) : ur_fR (s, f, g, R) a 3 1 = some (a + 2) := vfR h.1 rfl h.2.2.1 (by have := h.2.2.2.2.2.2.2; unfold ur_base; omega)
theorem oLine.r2 (h : oLine s R a) : ur_fR (s, f, g, R) a 3 2 = some (a + 3) := vfR h.1 rfl h.2.2.2.1 (by have := h.2.2.2.2.2.2.2; unfold ur_base; omega)
theorem oLine.a1 (h : oLine s R a) (hj : j < 5) : ur_aI (s, f, g, R) (a + 1) 0 (nI j) = some (f (a + 1) j) := vaI h.2.2.2.2.1 hj (by decide)
theorem oLine.w1 (h : oLine s R a) (hj : j < 5) : ur_wI (s, f, g, R) (a + 1) 0 (nI j) v = some (s, ur_u f (a + 1) j v, g, R) := vwI h.2.2.2.2.1 hj (by decide)
theorem oLine.s1 (h : oLine s R a) : s[a + 1]? = some (.inr (0, 5)) := h.2.2.2.2.1
theorem oLine.a2 (h : oLine s R a) (hj : j < 5) : ur_aI (s, f, g, R) (a + 2) 0 (nI j) = some (f (a + 2) j) := vaI h.2.2.2.2.2.1 hj (by decide)
theorem oLine.w2 (h : oLine s R a) (hj : j < 5) : ur_wI (s, f, g, R) (a + 2) 0 (nI j) v = some (s, ur_u f (a + 2) j v, g, R) := vwI h.2.2.2.2.2.1 hj (by decide)
theorem oLine.s2 (h : oLine s R a) : s[a + 2]? = some (.inr (0, 5)) := h.2.2.2.2.2.1
theorem oLine.a3 (h : oLine s R a) (hj : j < 25) : ur_aI (s, f, g, R) (a + 3) 0 (nI j) = some (f (a + 3) j) := vaI h.2.2.2.2.2.2.1 hj (by decide)
theorem oLine.w3 (h : oLine s R a) (hj : j < 25) : ur_wI (s, f, g, R) (a + 3) 0 (nI j) v = some (s, ur_u f (a + 3) j v, g, R) := vwI h.2.2.2.2.2.2.1 hj (by decide)
theorem oLine.s3 (h : oLine s R a) : s[a + 3]? = some (.inr (0, 25)) := h.2.2.2.2.2.2.1
theorem oLine.le (h : oLine s R a) : a + 4 ≤ 1000 := h.2.2.2.2.2.2.2
end
def oDraws (s : List (Nat ⊕ (Nat × Nat))) (R : Nat → Nat → Option Nat) (a : Nat) : Prop := s[a]? = some (.inl 0) ∧ a + 1 ≤ 1000
section
variable {s : List (Nat ⊕ (Nat × Nat))} {f : Nat → Nat → Int32} {g : Nat → Nat → Int64} {R : Nat → Nat → Option Nat} {a k j : Nat} {v : Int32}
theorem oDraws.o (h : oDraws s R a) : s[a]? = some (.inl 0) := h.1
theorem oDraws.I (h : oDraws s R a) : ur_fI (s, f, g, R) a 0 k = some (f a k) := vfI h.1 rfl
theorem oDraws.L (h : oDraws s R a) : ur_fL (s, f, g, R) a 0 k = some (g a k) := vfL h.1
theorem oDraws.pI (h : oDraws s R a) : ur_pI (s, f, g, R) a 0 k v = some (s, ur_u f a k v, g, R) := vpI h.1
theorem oDraws.pL (h : oDraws s R a) {w : Int64} : ur_pL (s, f, g, R) a 0 k w = some (s, f, ur_u g a k w, R) := vpL h.1
theorem oDraws.rcv (h : oDraws s R a) : ur_isO (s, f, g, R) a 0 = true := vO h.1
theorem oDraws.le (h : oDraws s R a) : a + 1 ≤ 1000 := h.2
end
def oMark (s : List (Nat ⊕ (Nat × Nat))) (R : Nat → Nat → Option Nat) (a : Nat) : Prop := s[a]? = some (.inl 4) ∧ R a 0 = some (a + 1) ∧ R a 1 = some (a + 7) ∧ R a 2 = some (a + 11) ∧ oNight s R (a + 1) ∧ oScript s R (a + 7) ∧ oSeen s R (a + 11) ∧ a + 14 ≤ 1000
section
variable {s : List (Nat ⊕ (Nat × Nat))} {f : Nat → Nat → Int32} {g : Nat → Nat → Int64} {R : Nat → Nat → Option Nat} {a k j : Nat} {v : Int32}
theorem oMark.o (h : oMark s R a) : s[a]? = some (.inl 4) := h.1
theorem oMark.I (h : oMark s R a) : ur_fI (s, f, g, R) a 4 k = some (f a k) := vfI h.1 rfl
theorem oMark.L (h : oMark s R a) : ur_fL (s, f, g, R) a 4 k = some (g a k) := vfL h.1
theorem oMark.pI (h : oMark s R a) : ur_pI (s, f, g, R) a 4 k v = some (s, ur_u f a k v, g, R) := vpI h.1
theorem oMark.pL (h : oMark s R a) {w : Int64} : ur_pL (s, f, g, R) a 4 k w = some (s, f, ur_u g a k w, R) := vpL h.1
theorem oMark.rcv (h : oMark s R a) : ur_isO (s, f, g, R) a 4 = true := vO h.1
theorem oMark.r0 (h : oMark s R a) : ur_fR (s, f, g, R) a 4 0 = some (a + 1) := vfR h.1 rfl h.2.1 (by have := h.2.2.2.2.2.2.2; unfold ur_base; omega)
theorem oMark.r1 (h : oMark s R a) : ur_fR (s, f, g, R) a 4 1 = some (a + 7) := vfR h.1 rfl h.2.2.1 (by have := h.2.2.2.2.2.2.2; unfold ur_base; omega)
theorem oMark.r2 (h : oMark s R a) : ur_fR (s, f, g, R) a 4 2 = some (a + 11) := vfR h.1 rfl h.2.2.2.1 (by have := h.2.2.2.2.2.2.2; unfold ur_base; omega)
theorem oMark.oNight1 (h : oMark s R a) : oNight s R (a + 1) := h.2.2.2.2.1
theorem oMark.oScript7 (h : oMark s R a) : oScript s R (a + 7) := h.2.2.2.2.2.1
theorem oMark.oSeen11 (h : oMark s R a) : oSeen s R (a + 11) := h.2.2.2.2.2.2.1
theorem oMark.le (h : oMark s R a) : a + 14 ≤ 1000 := h.2.2.2.2.2.2.2
end
def oModel (s : List (Nat ⊕ (Nat × Nat))) (R : Nat → Nat → Option Nat) (a : Nat) : Prop := s[a]? = some (.inl 10) ∧ R a 2 = some (a + 1) ∧ R a 10 = some (a + 2) ∧ R a 11 = some (a + 3) ∧ R a 12 = some (a + 4) ∧ R a 13 = some (a + 5) ∧ R a 14 = some (a + 6) ∧ R a 15 = some (a + 7) ∧ R a 16 = some (a + 8) ∧ R a 17 = some (a + 9) ∧ R a 18 = some (a + 10) ∧ R a 19 = some (a + 11) ∧ R a 20 = some (a + 12) ∧ R a 22 = some (a + 13) ∧ R a 23 = some (a + 14) ∧ R a 24 = some (a + 15) ∧ R a 25 = some (a + 16) ∧ R a 26 = some (a + 17) ∧ R a 27 = some (a + 18) ∧ R a 28 = some (a + 19) ∧ R a 29 = some (a + 20) ∧ R a 30 = some (a + 21) ∧ R a 31 = some (a + 22) ∧ R a 32 = some (a + 23) ∧ R a 33 = some (a + 24) ∧ R a 36 = some (a + 25) ∧ R a 37 = some (a + 26) ∧ R a 38 = some (a + 27) ∧ R a 39 = some (a + 28) ∧ R a 40 = some (a + 29) ∧ R a 41 = some (a + 30) ∧ R a 42 = some (a + 31) ∧ R a 43 = some (a + 32) ∧ R a 44 = some (a + 33) ∧ R a 45 = some (a + 34) ∧ R a 46 = some (a + 35) ∧ R a 47 = some (a + 36) ∧ R a 48 = some (a + 37) ∧ R a 49 = some (a + 38) ∧ R a 51 = some (a + 39) ∧ R a 52 = some (a + 40) ∧ R a 54 = some (a + 41) ∧ R a 55 = some (a + 42) ∧ s[a + 1]? = some (.inr (0, 1000)) ∧ s[a + 2]? = some (.inr (0, 6)) ∧ s[a + 3]? = some (.inr (1, 16)) ∧ s[a + 4]? = some (.inr (0, 16)) ∧ s[a + 5]? = some (.inr (0, 16)) ∧ s[a + 6]? = some (.inr (1, 10)) ∧ s[a + 7]? = some (.inr (0, 10)) ∧ s[a + 8]? = some (.inr (0, 10)) ∧ s[a + 9]? = some (.inr (0, 10)) ∧ s[a + 10]? = some (.inr (0, 2)) ∧ s[a + 11]? = some (.inr (0, 2)) ∧ s[a + 12]? = some (.inr (0, 2000)) ∧ s[a + 13]? = some (.inr (0, 7)) ∧ s[a + 14]? = some (.inr (2, 7)) ∧ s[a + 15]? = some (.inr (0, 7)) ∧ s[a + 16]? = some (.inr (0, 7)) ∧ s[a + 17]? = some (.inr (0, 7)) ∧ s[a + 18]? = some (.inr (0, 7)) ∧ s[a + 19]? = some (.inr (0, 7)) ∧ s[a + 20]? = some (.inr (0, 7)) ∧ s[a + 21]? = some (.inr (0, 7)) ∧ s[a + 22]? = some (.inr (0, 7)) ∧ s[a + 23]? = some (.inr (0, 7)) ∧ s[a + 24]? = some (.inr (0, 20)) ∧ s[a + 25]? = some (.inr (0, 6)) ∧ s[a + 26]? = some (.inr (0, 240)) ∧ s[a + 27]? = some (.inr (0, 240)) ∧ s[a + 28]? = some (.inr (0, 240)) ∧ s[a + 29]? = some (.inr (0, 5)) ∧ s[a + 30]? = some (.inr (0, 40)) ∧ s[a + 31]? = some (.inr (0, 40)) ∧ s[a + 32]? = some (.inr (2, 40)) ∧ s[a + 33]? = some (.inr (0, 29)) ∧ s[a + 34]? = some (.inr (0, 29)) ∧ s[a + 35]? = some (.inr (0, 29)) ∧ s[a + 36]? = some (.inr (0, 116)) ∧ s[a + 37]? = some (.inr (0, 464)) ∧ s[a + 38]? = some (.inr (2, 4)) ∧ s[a + 39]? = some (.inr (0, 5)) ∧ s[a + 40]? = some (.inr (0, 5)) ∧ s[a + 41]? = some (.inr (0, 40)) ∧ s[a + 42]? = some (.inr (0, 31)) ∧ a + 43 ≤ 1000
section
variable {s : List (Nat ⊕ (Nat × Nat))} {f : Nat → Nat → Int32} {g : Nat → Nat → Int64} {R : Nat → Nat → Option Nat} {a k j : Nat} {v : Int32}
theorem oModel.o (h : oModel s R a) : s[a]? = some (.inl 10) := h.1
theorem oModel.I (h : oModel s R a) : ur_fI (s, f, g, R) a 10 k = some (f a k) := vfI h.1 rfl
theorem oModel.L (h : oModel s R a) : ur_fL (s, f, g, R) a 10 k = some (g a k) := vfL h.1
theorem oModel.pI (h : oModel s R a) : ur_pI (s, f, g, R) a 10 k v = some (s, ur_u f a k v, g, R) := vpI h.1
theorem oModel.pL (h : oModel s R a) {w : Int64} : ur_pL (s, f, g, R) a 10 k w = some (s, f, ur_u g a k w, R) := vpL h.1
theorem oModel.rcv (h : oModel s R a) : ur_isO (s, f, g, R) a 10 = true := vO h.1
theorem oModel.r2 (h : oModel s R a) : ur_fR (s, f, g, R) a 10 2 = some (a + 1) := vfR h.1 rfl h.2.1 (by have := h.2.2.2.2.2.2.2.2.2.2.2.2.2.2.2.2.2.2.2.2.2.2.2.2.2.2.2.2.2.2.2.2.2.2.2.2.2.2.2.2.2.2.2.2.2.2.2.2.2.2.2.2.2.2.2.2.2.2.2.2.2.2.2.2.2.2.2.2.2.2.2.2.2.2.2.2.2.2.2.2.2.2.2.2.2; unfold ur_base; omega)
theorem oModel.r10 (h : oModel s R a) : ur_fR (s, f, g, R) a 10 10 = some (a + 2) := vfR h.1 rfl h.2.2.1 (by have := h.2.2.2.2.2.2.2.2.2.2.2.2.2.2.2.2.2.2.2.2.2.2.2.2.2.2.2.2.2.2.2.2.2.2.2.2.2.2.2.2.2.2.2.2.2.2.2.2.2.2.2.2.2.2.2.2.2.2.2.2.2.2.2.2.2.2.2.2.2.2.2.2.2.2.2.2.2.2.2.2.2.2.2.2.2; unfold ur_base; omega)
theorem oModel.r11 (h : oModel s R a) : ur_fR (s, f, g, R) a 10 11 = some (a + 3) := vfR h.1 rfl h.2.2.2.1 (by have := h.2.2.2.2.2.2.2.2.2.2.2.2.2.2.2.2.2.2.2.2.2.2.2.2.2.2.2.2.2.2.2.2.2.2.2.2.2.2.2.2.2.2.2.2.2.2.2.2.2.2.2.2.2.2.2.2.2.2.2.2.2.2.2.2.2.2.2.2.2.2.2.2.2.2.2.2.2.2.2.2.2.2.2.2.2; unfold ur_base; omega)
theorem oModel.r12 (h : oModel s R a) : ur_fR (s, f, g, R) a 10 12 = some (a + 4) := vfR h.1 rfl h.2.2.2.2.1 (by have := h.2.2.2.2.2.2.2.2.2.2.2.2.2.2.2.2.2.2.2.2.2.2.2.2.2.2.2.2.2.2.2.2.2.2.2.2.2.2.2.2.2.2.2.2.2.2.2.2.2.2.2.2.2.2.2.2.2.2.2.2.2.2.2.2.2.2.2.2.2.2.2.2.2.2.2.2.2.2.2.2.2.2.2.2.2; unfold ur_base; omega)
theorem oModel.r13 (h : oModel s R a) : ur_fR (s, f, g, R) a 10 13 = some (a + 5) := vfR h.1 rfl h.2.2.2.2.2.1 (by have := h.2.2.2.2.2.2.2.2.2.2.2.2.2.2.2.2.2.2.2.2.2.2.2.2.2.2.2.2.2.2.2.2.2.2.2.2.2.2.2.2.2.2.2.2.2.2.2.2.2.2.2.2.2.2.2.2.2.2.2.2.2.2.2.2.2.2.2.2.2.2.2.2.2.2.2.2.2.2.2.2.2.2.2.2.2; unfold ur_base; omega)
theorem oModel.r14 (h : oModel s R a) : ur_fR (s, f, g, R) a 10 14 = some (a + 6) := vfR h.1 rfl h.2.2.2.2.2.2.1 (by have := h.2.2.2.2.2.2.2.2.2.2.2.2.2.2.2.2.2.2.2.2.2.2.2.2.2.2.2.2.2.2.2.2.2.2.2.2.2.2.2.2.2.2.2.2.2.2.2.2.2.2.2.2.2.2.2.2.2.2.2.2.2.2.2.2.2.2.2.2.2.2.2.2.2.2.2.2.2.2.2.2.2.2.2.2.2; unfold ur_base; omega)
theorem oModel.r15 (h : oModel s R a) : ur_fR (s, f, g, R) a 10 15 = some (a + 7) := vfR h.1 rfl h.2.2.2.2.2.2.2.1 (by have := h.2.2.2.2.2.2.2.2.2.2.2.2.2.2.2.2.2.2.2.2.2.2.2.2.2.2.2.2.2.2.2.2.2.2.2.2.2.2.2.2.2.2.2.2.2.2.2.2.2.2.2.2.2.2.2.2.2.2.2.2.2.2.2.2.2.2.2.2.2.2.2.2.2.2.2.2.2.2.2.2.2.2.2.2.2; unfold ur_base; omega)
theorem oModel.r16 (h : oModel s R a) : ur_fR (s, f, g, R) a 10 16 = some (a + 8) := vfR h.1 rfl h.2.2.2.2.2.2.2.2.1 (by have := h.2.2.2.2.2.2.2.2.2.2.2.2.2.2.2.2.2.2.2.2.2.2.2.2.2.2.2.2.2.2.2.2.2.2.2.2.2.2.2.2.2.2.2.2.2.2.2.2.2.2.2.2.2.2.2.2.2.2.2.2.2.2.2.2.2.2.2.2.2.2.2.2.2.2.2.2.2.2.2.2.2.2.2.2.2; unfold ur_base; omega)
theorem oModel.r17 (h : oModel s R a) : ur_fR (s, f, g, R) a 10 17 = some (a + 9) := vfR h.1 rfl h.2.2.2.2.2.2.2.2.2.1 (by have := h.2.2.2.2.2.2.2.2.2.2.2.2.2.2.2.2.2.2.2.2.2.2.2.2.2.2.2.2.2.2.2.2.2.2.2.2.2.2.2.2.2.2.2.2.2.2.2.2.2.2.2.2.2.2.2.2.2.2.2.2.2.2.2.2.2.2.2.2.2.2.2.2.2.2.2.2.2.2.2.2.2.2.2.2.2; unfold ur_base; omega)
theorem oModel.r18 (h : oModel s R a) : ur_fR (s, f, g, R) a 10 18 = some (a + 10) := vfR h.1 rfl h.2.2.2.2.2.2.2.2.2.2.1 (by have := h.2.2.2.2.2.2.2.2.2.2.2.2.2.2.2.2.2.2.2.2.2.2.2.2.2.2.2.2.2.2.2.2.2.2.2.2.2.2.2.2.2.2.2.2.2.2.2.2.2.2.2.2.2.2.2.2.2.2.2.2.2.2.2.2.2.2.2.2.2.2.2.2.2.2.2.2.2.2.2.2.2.2.2.2.2; unfold ur_base; omega)
theorem oModel.r19 (h : oModel s R a) : ur_fR (s, f, g, R) a 10 19 = some (a + 11) := vfR h.1 rfl h.2.2.2.2.2.2.2.2.2.2.2.1 (by have := h.2.2.2.2.2.2.2.2.2.2.2.2.2.2.2.2.2.2.2.2.2.2.2.2.2.2.2.2.2.2.2.2.2.2.2.2.2.2.2.2.2.2.2.2.2.2.2.2.2.2.2.2.2.2.2.2.2.2.2.2.2.2.2.2.2.2.2.2.2.2.2.2.2.2.2.2.2.2.2.2.2.2.2.2.2; unfold ur_base; omega)
theorem oModel.r20 (h : oModel s R a) : ur_fR (s, f, g, R) a 10 20 = some (a + 12) := vfR h.1 rfl h.2.2.2.2.2.2.2.2.2.2.2.2.1 (by have := h.2.2.2.2.2.2.2.2.2.2.2.2.2.2.2.2.2.2.2.2.2.2.2.2.2.2.2.2.2.2.2.2.2.2.2.2.2.2.2.2.2.2.2.2.2.2.2.2.2.2.2.2.2.2.2.2.2.2.2.2.2.2.2.2.2.2.2.2.2.2.2.2.2.2.2.2.2.2.2.2.2.2.2.2.2; unfold ur_base; omega)
theorem oModel.r22 (h : oModel s R a) : ur_fR (s, f, g, R) a 10 22 = some (a + 13) := vfR h.1 rfl h.2.2.2.2.2.2.2.2.2.2.2.2.2.1 (by have := h.2.2.2.2.2.2.2.2.2.2.2.2.2.2.2.2.2.2.2.2.2.2.2.2.2.2.2.2.2.2.2.2.2.2.2.2.2.2.2.2.2.2.2.2.2.2.2.2.2.2.2.2.2.2.2.2.2.2.2.2.2.2.2.2.2.2.2.2.2.2.2.2.2.2.2.2.2.2.2.2.2.2.2.2.2; unfold ur_base; omega)
theorem oModel.r23 (h : oModel s R a) : ur_fR (s, f, g, R) a 10 23 = some (a + 14) := vfR h.1 rfl h.2.2.2.2.2.2.2.2.2.2.2.2.2.2.1 (by have := h.2.2.2.2.2.2.2.2.2.2.2.2.2.2.2.2.2.2.2.2.2.2.2.2.2.2.2.2.2.2.2.2.2.2.2.2.2.2.2.2.2.2.2.2.2.2.2.2.2.2.2.2.2.2.2.2.2.2.2.2.2.2.2.2.2.2.2.2.2.2.2.2.2.2.2.2.2.2.2.2.2.2.2.2.2; unfold ur_base; omega)
theorem oModel.r24 (h : oModel s R a) : ur_fR (s, f, g, R) a 10 24 = some (a + 15) := vfR h.1 rfl h.2.2.2.2.2.2.2.2.2.2.2.2.2.2.2.1 (by have := h.2.2.2.2.2.2.2.2.2.2.2.2.2.2.2.2.2.2.2.2.2.2.2.2.2.2.2.2.2.2.2.2.2.2.2.2.2.2.2.2.2.2.2.2.2.2.2.2.2.2.2.2.2.2.2.2.2.2.2.2.2.2.2.2.2.2.2.2.2.2.2.2.2.2.2.2.2.2.2.2.2.2.2.2.2; unfold ur_base; omega)
theorem oModel.r25 (h : oModel s R a) : ur_fR (s, f, g, R) a 10 25 = some (a + 16) := vfR h.1 rfl h.2.2.2.2.2.2.2.2.2.2.2.2.2.2.2.2.1 (by have := h.2.2.2.2.2.2.2.2.2.2.2.2.2.2.2.2.2.2.2.2.2.2.2.2.2.2.2.2.2.2.2.2.2.2.2.2.2.2.2.2.2.2.2.2.2.2.2.2.2.2.2.2.2.2.2.2.2.2.2.2.2.2.2.2.2.2.2.2.2.2.2.2.2.2.2.2.2.2.2.2.2.2.2.2.2; unfold ur_base; omega)
theorem oModel.r26 (h : oModel s R a) : ur_fR (s, f, g, R) a 10 26 = some (a + 17) := vfR h.1 rfl h.2.2.2.2.2.2.2.2.2.2.2.2.2.2.2.2.2.1 (by have := h.2.2.2.2.2.2.2.2.2.2.2.2.2.2.2.2.2.2.2.2.2.2.2.2.2.2.2.2.2.2.2.2.2.2.2.2.2.2.2.2.2.2.2.2.2.2.2.2.2.2.2.2.2.2.2.2.2.2.2.2.2.2.2.2.2.2.2.2.2.2.2.2.2.2.2.2.2.2.2.2.2.2.2.2.2; unfold ur_base; omega)
theorem oModel.r27 (h : oModel s R a) : ur_fR (s, f, g, R) a 10 27 = some (a + 18) := vfR h.1 rfl h.2.2.2.2.2.2.2.2.2.2.2.2.2.2.2.2.2.2.1 (by have := h.2.2.2.2.2.2.2.2.2.2.2.2.2.2.2.2.2.2.2.2.2.2.2.2.2.2.2.2.2.2.2.2.2.2.2.2.2.2.2.2.2.2.2.2.2.2.2.2.2.2.2.2.2.2.2.2.2.2.2.2.2.2.2.2.2.2.2.2.2.2.2.2.2.2.2.2.2.2.2.2.2.2.2.2.2; unfold ur_base; omega)
theorem oModel.r28 (h : oModel s R a) : ur_fR (s, f, g, R) a 10 28 = some (a + 19) := vfR h.1 rfl h.2.2.2.2.2.2.2.2.2.2.2.2.2.2.2.2.2.2.2.1 (by have := h.2.2.2.2.2.2.2.2.2.2.2.2.2.2.2.2.2.2.2.2.2.2.2.2.2.2.2.2.2.2.2.2.2.2.2.2.2.2.2.2.2.2.2.2.2.2.2.2.2.2.2.2.2.2.2.2.2.2.2.2.2.2.2.2.2.2.2.2.2.2.2.2.2.2.2.2.2.2.2.2.2.2.2.2.2; unfold ur_base; omega)
theorem oModel.r29 (h : oModel s R a) : ur_fR (s, f, g, R) a 10 29 = some (a + 20) := vfR h.1 rfl h.2.2.2.2.2.2.2.2.2.2.2.2.2.2.2.2.2.2.2.2.1 (by have := h.2.2.2.2.2.2.2.2.2.2.2.2.2.2.2.2.2.2.2.2.2.2.2.2.2.2.2.2.2.2.2.2.2.2.2.2.2.2.2.2.2.2.2.2.2.2.2.2.2.2.2.2.2.2.2.2.2.2.2.2.2.2.2.2.2.2.2.2.2.2.2.2.2.2.2.2.2.2.2.2.2.2.2.2.2; unfold ur_base; omega)
theorem oModel.r30 (h : oModel s R a) : ur_fR (s, f, g, R) a 10 30 = some (a + 21) := vfR h.1 rfl h.2.2.2.2.2.2.2.2.2.2.2.2.2.2.2.2.2.2.2.2.2.1 (by have := h.2.2.2.2.2.2.2.2.2.2.2.2.2.2.2.2.2.2.2.2.2.2.2.2.2.2.2.2.2.2.2.2.2.2.2.2.2.2.2.2.2.2.2.2.2.2.2.2.2.2.2.2.2.2.2.2.2.2.2.2.2.2.2.2.2.2.2.2.2.2.2.2.2.2.2.2.2.2.2.2.2.2.2.2.2; unfold ur_base; omega)
theorem oModel.r31 (h : oModel s R a) : ur_fR (s, f, g, R) a 10 31 = some (a + 22) := vfR h.1 rfl h.2.2.2.2.2.2.2.2.2.2.2.2.2.2.2.2.2.2.2.2.2.2.1 (by have := h.2.2.2.2.2.2.2.2.2.2.2.2.2.2.2.2.2.2.2.2.2.2.2.2.2.2.2.2.2.2.2.2.2.2.2.2.2.2.2.2.2.2.2.2.2.2.2.2.2.2.2.2.2.2.2.2.2.2.2.2.2.2.2.2.2.2.2.2.2.2.2.2.2.2.2.2.2.2.2.2.2.2.2.2.2; unfold ur_base; omega)
theorem oModel.r32 (h : oModel s R a) : ur_fR (s, f, g, R) a 10 32 = some (a + 23) := vfR h.1 rfl h.2.2.2.2.2.2.2.2.2.2.2.2.2.2.2.2.2.2.2.2.2.2.2.1 (by have := h.2.2.2.2.2.2.2.2.2.2.2.2.2.2.2.2.2.2.2.2.2.2.2.2.2.2.2.2.2.2.2.2.2.2.2.2.2.2.2.2.2.2.2.2.2.2.2.2.2.2.2.2.2.2.2.2.2.2.2.2.2.2.2.2.2.2.2.2.2.2.2.2.2.2.2.2.2.2.2.2.2.2.2.2.2; unfold ur_base; omega)
theorem oModel.r33 (h : oModel s R a) : ur_fR (s, f, g, R) a 10 33 = some (a + 24) := vfR h.1 rfl h.2.2.2.2.2.2.2.2.2.2.2.2.2.2.2.2.2.2.2.2.2.2.2.2.1 (by have := h.2.2.2.2.2.2.2.2.2.2.2.2.2.2.2.2.2.2.2.2.2.2.2.2.2.2.2.2.2.2.2.2.2.2.2.2.2.2.2.2.2.2.2.2.2.2.2.2.2.2.2.2.2.2.2.2.2.2.2.2.2.2.2.2.2.2.2.2.2.2.2.2.2.2.2.2.2.2.2.2.2.2.2.2.2; unfold ur_base; omega)
theorem oModel.r36 (h : oModel s R a) : ur_fR (s, f, g, R) a 10 36 = some (a + 25) := vfR h.1 rfl h.2.2.2.2.2.2.2.2.2.2.2.2.2.2.2.2.2.2.2.2.2.2.2.2.2.1 (by have := h.2.2.2.2.2.2.2.2.2.2.2.2.2.2.2.2.2.2.2.2.2.2.2.2.2.2.2.2.2.2.2.2.2.2.2.2.2.2.2.2.2.2.2.2.2.2.2.2.2.2.2.2.2.2.2.2.2.2.2.2.2.2.2.2.2.2.2.2.2.2.2.2.2.2.2.2.2.2.2.2.2.2.2.2.2; unfold ur_base; omega)
theorem oModel.r37 (h : oModel s R a) : ur_fR (s, f, g, R) a 10 37 = some (a + 26) := vfR h.1 rfl h.2.2.2.2.2.2.2.2.2.2.2.2.2.2.2.2.2.2.2.2.2.2.2.2.2.2.1 (by have := h.2.2.2.2.2.2.2.2.2.2.2.2.2.2.2.2.2.2.2.2.2.2.2.2.2.2.2.2.2.2.2.2.2.2.2.2.2.2.2.2.2.2.2.2.2.2.2.2.2.2.2.2.2.2.2.2.2.2.2.2.2.2.2.2.2.2.2.2.2.2.2.2.2.2.2.2.2.2.2.2.2.2.2.2.2; unfold ur_base; omega)
theorem oModel.r38 (h : oModel s R a) : ur_fR (s, f, g, R) a 10 38 = some (a + 27) := vfR h.1 rfl h.2.2.2.2.2.2.2.2.2.2.2.2.2.2.2.2.2.2.2.2.2.2.2.2.2.2.2.1 (by have := h.2.2.2.2.2.2.2.2.2.2.2.2.2.2.2.2.2.2.2.2.2.2.2.2.2.2.2.2.2.2.2.2.2.2.2.2.2.2.2.2.2.2.2.2.2.2.2.2.2.2.2.2.2.2.2.2.2.2.2.2.2.2.2.2.2.2.2.2.2.2.2.2.2.2.2.2.2.2.2.2.2.2.2.2.2; unfold ur_base; omega)
theorem oModel.r39 (h : oModel s R a) : ur_fR (s, f, g, R) a 10 39 = some (a + 28) := vfR h.1 rfl h.2.2.2.2.2.2.2.2.2.2.2.2.2.2.2.2.2.2.2.2.2.2.2.2.2.2.2.2.1 (by have := h.2.2.2.2.2.2.2.2.2.2.2.2.2.2.2.2.2.2.2.2.2.2.2.2.2.2.2.2.2.2.2.2.2.2.2.2.2.2.2.2.2.2.2.2.2.2.2.2.2.2.2.2.2.2.2.2.2.2.2.2.2.2.2.2.2.2.2.2.2.2.2.2.2.2.2.2.2.2.2.2.2.2.2.2.2; unfold ur_base; omega)
theorem oModel.r40 (h : oModel s R a) : ur_fR (s, f, g, R) a 10 40 = some (a + 29) := vfR h.1 rfl h.2.2.2.2.2.2.2.2.2.2.2.2.2.2.2.2.2.2.2.2.2.2.2.2.2.2.2.2.2.1 (by have := h.2.2.2.2.2.2.2.2.2.2.2.2.2.2.2.2.2.2.2.2.2.2.2.2.2.2.2.2.2.2.2.2.2.2.2.2.2.2.2.2.2.2.2.2.2.2.2.2.2.2.2.2.2.2.2.2.2.2.2.2.2.2.2.2.2.2.2.2.2.2.2.2.2.2.2.2.2.2.2.2.2.2.2.2.2; unfold ur_base; omega)
theorem oModel.r41 (h : oModel s R a) : ur_fR (s, f, g, R) a 10 41 = some (a + 30) := vfR h.1 rfl h.2.2.2.2.2.2.2.2.2.2.2.2.2.2.2.2.2.2.2.2.2.2.2.2.2.2.2.2.2.2.1 (by have := h.2.2.2.2.2.2.2.2.2.2.2.2.2.2.2.2.2.2.2.2.2.2.2.2.2.2.2.2.2.2.2.2.2.2.2.2.2.2.2.2.2.2.2.2.2.2.2.2.2.2.2.2.2.2.2.2.2.2.2.2.2.2.2.2.2.2.2.2.2.2.2.2.2.2.2.2.2.2.2.2.2.2.2.2.2; unfold ur_base; omega)
theorem oModel.r42 (h : oModel s R a) : ur_fR (s, f, g, R) a 10 42 = some (a + 31) := vfR h.1 rfl h.2.2.2.2.2.2.2.2.2.2.2.2.2.2.2.2.2.2.2.2.2.2.2.2.2.2.2.2.2.2.2.1 (by have := h.2.2.2.2.2.2.2.2.2.2.2.2.2.2.2.2.2.2.2.2.2.2.2.2.2.2.2.2.2.2.2.2.2.2.2.2.2.2.2.2.2.2.2.2.2.2.2.2.2.2.2.2.2.2.2.2.2.2.2.2.2.2.2.2.2.2.2.2.2.2.2.2.2.2.2.2.2.2.2.2.2.2.2.2.2; unfold ur_base; omega)
theorem oModel.r43 (h : oModel s R a) : ur_fR (s, f, g, R) a 10 43 = some (a + 32) := vfR h.1 rfl h.2.2.2.2.2.2.2.2.2.2.2.2.2.2.2.2.2.2.2.2.2.2.2.2.2.2.2.2.2.2.2.2.1 (by have := h.2.2.2.2.2.2.2.2.2.2.2.2.2.2.2.2.2.2.2.2.2.2.2.2.2.2.2.2.2.2.2.2.2.2.2.2.2.2.2.2.2.2.2.2.2.2.2.2.2.2.2.2.2.2.2.2.2.2.2.2.2.2.2.2.2.2.2.2.2.2.2.2.2.2.2.2.2.2.2.2.2.2.2.2.2; unfold ur_base; omega)
theorem oModel.r44 (h : oModel s R a) : ur_fR (s, f, g, R) a 10 44 = some (a + 33) := vfR h.1 rfl h.2.2.2.2.2.2.2.2.2.2.2.2.2.2.2.2.2.2.2.2.2.2.2.2.2.2.2.2.2.2.2.2.2.1 (by have := h.2.2.2.2.2.2.2.2.2.2.2.2.2.2.2.2.2.2.2.2.2.2.2.2.2.2.2.2.2.2.2.2.2.2.2.2.2.2.2.2.2.2.2.2.2.2.2.2.2.2.2.2.2.2.2.2.2.2.2.2.2.2.2.2.2.2.2.2.2.2.2.2.2.2.2.2.2.2.2.2.2.2.2.2.2; unfold ur_base; omega)
theorem oModel.r45 (h : oModel s R a) : ur_fR (s, f, g, R) a 10 45 = some (a + 34) := vfR h.1 rfl h.2.2.2.2.2.2.2.2.2.2.2.2.2.2.2.2.2.2.2.2.2.2.2.2.2.2.2.2.2.2.2.2.2.2.1 (by have := h.2.2.2.2.2.2.2.2.2.2.2.2.2.2.2.2.2.2.2.2.2.2.2.2.2.2.2.2.2.2.2.2.2.2.2.2.2.2.2.2.2.2.2.2.2.2.2.2.2.2.2.2.2.2.2.2.2.2.2.2.2.2.2.2.2.2.2.2.2.2.2.2.2.2.2.2.2.2.2.2.2.2.2.2.2; unfold ur_base; omega)
theorem oModel.r46 (h : oModel s R a) : ur_fR (s, f, g, R) a 10 46 = some (a + 35) := vfR h.1 rfl h.2.2.2.2.2.2.2.2.2.2.2.2.2.2.2.2.2.2.2.2.2.2.2.2.2.2.2.2.2.2.2.2.2.2.2.1 (by have := h.2.2.2.2.2.2.2.2.2.2.2.2.2.2.2.2.2.2.2.2.2.2.2.2.2.2.2.2.2.2.2.2.2.2.2.2.2.2.2.2.2.2.2.2.2.2.2.2.2.2.2.2.2.2.2.2.2.2.2.2.2.2.2.2.2.2.2.2.2.2.2.2.2.2.2.2.2.2.2.2.2.2.2.2.2; unfold ur_base; omega)
theorem oModel.r47 (h : oModel s R a) : ur_fR (s, f, g, R) a 10 47 = some (a + 36) := vfR h.1 rfl h.2.2.2.2.2.2.2.2.2.2.2.2.2.2.2.2.2.2.2.2.2.2.2.2.2.2.2.2.2.2.2.2.2.2.2.2.1 (by have := h.2.2.2.2.2.2.2.2.2.2.2.2.2.2.2.2.2.2.2.2.2.2.2.2.2.2.2.2.2.2.2.2.2.2.2.2.2.2.2.2.2.2.2.2.2.2.2.2.2.2.2.2.2.2.2.2.2.2.2.2.2.2.2.2.2.2.2.2.2.2.2.2.2.2.2.2.2.2.2.2.2.2.2.2.2; unfold ur_base; omega)
theorem oModel.r48 (h : oModel s R a) : ur_fR (s, f, g, R) a 10 48 = some (a + 37) := vfR h.1 rfl h.2.2.2.2.2.2.2.2.2.2.2.2.2.2.2.2.2.2.2.2.2.2.2.2.2.2.2.2.2.2.2.2.2.2.2.2.2.1 (by have := h.2.2.2.2.2.2.2.2.2.2.2.2.2.2.2.2.2.2.2.2.2.2.2.2.2.2.2.2.2.2.2.2.2.2.2.2.2.2.2.2.2.2.2.2.2.2.2.2.2.2.2.2.2.2.2.2.2.2.2.2.2.2.2.2.2.2.2.2.2.2.2.2.2.2.2.2.2.2.2.2.2.2.2.2.2; unfold ur_base; omega)
theorem oModel.r49 (h : oModel s R a) : ur_fR (s, f, g, R) a 10 49 = some (a + 38) := vfR h.1 rfl h.2.2.2.2.2.2.2.2.2.2.2.2.2.2.2.2.2.2.2.2.2.2.2.2.2.2.2.2.2.2.2.2.2.2.2.2.2.2.1 (by have := h.2.2.2.2.2.2.2.2.2.2.2.2.2.2.2.2.2.2.2.2.2.2.2.2.2.2.2.2.2.2.2.2.2.2.2.2.2.2.2.2.2.2.2.2.2.2.2.2.2.2.2.2.2.2.2.2.2.2.2.2.2.2.2.2.2.2.2.2.2.2.2.2.2.2.2.2.2.2.2.2.2.2.2.2.2; unfold ur_base; omega)
theorem oModel.r51 (h : oModel s R a) : ur_fR (s, f, g, R) a 10 51 = some (a + 39) := vfR h.1 rfl h.2.2.2.2.2.2.2.2.2.2.2.2.2.2.2.2.2.2.2.2.2.2.2.2.2.2.2.2.2.2.2.2.2.2.2.2.2.2.2.1 (by have := h.2.2.2.2.2.2.2.2.2.2.2.2.2.2.2.2.2.2.2.2.2.2.2.2.2.2.2.2.2.2.2.2.2.2.2.2.2.2.2.2.2.2.2.2.2.2.2.2.2.2.2.2.2.2.2.2.2.2.2.2.2.2.2.2.2.2.2.2.2.2.2.2.2.2.2.2.2.2.2.2.2.2.2.2.2; unfold ur_base; omega)
theorem oModel.r52 (h : oModel s R a) : ur_fR (s, f, g, R) a 10 52 = some (a + 40) := vfR h.1 rfl h.2.2.2.2.2.2.2.2.2.2.2.2.2.2.2.2.2.2.2.2.2.2.2.2.2.2.2.2.2.2.2.2.2.2.2.2.2.2.2.2.1 (by have := h.2.2.2.2.2.2.2.2.2.2.2.2.2.2.2.2.2.2.2.2.2.2.2.2.2.2.2.2.2.2.2.2.2.2.2.2.2.2.2.2.2.2.2.2.2.2.2.2.2.2.2.2.2.2.2.2.2.2.2.2.2.2.2.2.2.2.2.2.2.2.2.2.2.2.2.2.2.2.2.2.2.2.2.2.2; unfold ur_base; omega)
theorem oModel.r54 (h : oModel s R a) : ur_fR (s, f, g, R) a 10 54 = some (a + 41) := vfR h.1 rfl h.2.2.2.2.2.2.2.2.2.2.2.2.2.2.2.2.2.2.2.2.2.2.2.2.2.2.2.2.2.2.2.2.2.2.2.2.2.2.2.2.2.1 (by have := h.2.2.2.2.2.2.2.2.2.2.2.2.2.2.2.2.2.2.2.2.2.2.2.2.2.2.2.2.2.2.2.2.2.2.2.2.2.2.2.2.2.2.2.2.2.2.2.2.2.2.2.2.2.2.2.2.2.2.2.2.2.2.2.2.2.2.2.2.2.2.2.2.2.2.2.2.2.2.2.2.2.2.2.2.2; unfold ur_base; omega)
theorem oModel.r55 (h : oModel s R a) : ur_fR (s, f, g, R) a 10 55 = some (a + 42) := vfR h.1 rfl h.2.2.2.2.2.2.2.2.2.2.2.2.2.2.2.2.2.2.2.2.2.2.2.2.2.2.2.2.2.2.2.2.2.2.2.2.2.2.2.2.2.2.1 (by have := h.2.2.2.2.2.2.2.2.2.2.2.2.2.2.2.2.2.2.2.2.2.2.2.2.2.2.2.2.2.2.2.2.2.2.2.2.2.2.2.2.2.2.2.2.2.2.2.2.2.2.2.2.2.2.2.2.2.2.2.2.2.2.2.2.2.2.2.2.2.2.2.2.2.2.2.2.2.2.2.2.2.2.2.2.2; unfold ur_base; omega)
theorem oModel.a1 (h : oModel s R a) (hj : j < 1000) : ur_aI (s, f, g, R) (a + 1) 0 (nI j) = some (f (a + 1) j) := vaI h.2.2.2.2.2.2.2.2.2.2.2.2.2.2.2.2.2.2.2.2.2.2.2.2.2.2.2.2.2.2.2.2.2.2.2.2.2.2.2.2.2.2.2.1 hj (by decide)
theorem oModel.w1 (h : oModel s R a) (hj : j < 1000) : ur_wI (s, f, g, R) (a + 1) 0 (nI j) v = some (s, ur_u f (a + 1) j v, g, R) := vwI h.2.2.2.2.2.2.2.2.2.2.2.2.2.2.2.2.2.2.2.2.2.2.2.2.2.2.2.2.2.2.2.2.2.2.2.2.2.2.2.2.2.2.2.1 hj (by decide)
theorem oModel.s1 (h : oModel s R a) : s[a + 1]? = some (.inr (0, 1000)) := h.2.2.2.2.2.2.2.2.2.2.2.2.2.2.2.2.2.2.2.2.2.2.2.2.2.2.2.2.2.2.2.2.2.2.2.2.2.2.2.2.2.2.2.1
theorem oModel.a2 (h : oModel s R a) (hj : j < 6) : ur_aI (s, f, g, R) (a + 2) 0 (nI j) = some (f (a + 2) j) := vaI h.2.2.2.2.2.2.2.2.2.2.2.2.2.2.2.2.2.2.2.2.2.2.2.2.2.2.2.2.2.2.2.2.2.2.2.2.2.2.2.2.2.2.2.2.1 hj (by decide)
theorem oModel.w2 (h : oModel s R a) (hj : j < 6) : ur_wI (s, f, g, R) (a + 2) 0 (nI j) v = some (s, ur_u f (a + 2) j v, g, R) := vwI h.2.2.2.2.2.2.2.2.2.2.2.2.2.2.2.2.2.2.2.2.2.2.2.2.2.2.2.2.2.2.2.2.2.2.2.2.2.2.2.2.2.2.2.2.1 hj (by decide)
theorem oModel.s2 (h : oModel s R a) : s[a + 2]? = some (.inr (0, 6)) := h.2.2.2.2.2.2.2.2.2.2.2.2.2.2.2.2.2.2.2.2.2.2.2.2.2.2.2.2.2.2.2.2.2.2.2.2.2.2.2.2.2.2.2.2.1
theorem oModel.a3 (h : oModel s R a) (hj : j < 16) : ur_aL (s, f, g, R) (a + 3) (nI j) = some (g (a + 3) j) := vaL h.2.2.2.2.2.2.2.2.2.2.2.2.2.2.2.2.2.2.2.2.2.2.2.2.2.2.2.2.2.2.2.2.2.2.2.2.2.2.2.2.2.2.2.2.2.1 hj (by decide)
theorem oModel.w3 (h : oModel s R a) {w : Int64} (hj : j < 16) : ur_wL (s, f, g, R) (a + 3) (nI j) w = some (s, f, ur_u g (a + 3) j w, R) := vwL h.2.2.2.2.2.2.2.2.2.2.2.2.2.2.2.2.2.2.2.2.2.2.2.2.2.2.2.2.2.2.2.2.2.2.2.2.2.2.2.2.2.2.2.2.2.1 hj (by decide)
theorem oModel.s3 (h : oModel s R a) : s[a + 3]? = some (.inr (1, 16)) := h.2.2.2.2.2.2.2.2.2.2.2.2.2.2.2.2.2.2.2.2.2.2.2.2.2.2.2.2.2.2.2.2.2.2.2.2.2.2.2.2.2.2.2.2.2.1
theorem oModel.a4 (h : oModel s R a) (hj : j < 16) : ur_aI (s, f, g, R) (a + 4) 0 (nI j) = some (f (a + 4) j) := vaI h.2.2.2.2.2.2.2.2.2.2.2.2.2.2.2.2.2.2.2.2.2.2.2.2.2.2.2.2.2.2.2.2.2.2.2.2.2.2.2.2.2.2.2.2.2.2.1 hj (by decide)
theorem oModel.w4 (h : oModel s R a) (hj : j < 16) : ur_wI (s, f, g, R) (a + 4) 0 (nI j) v = some (s, ur_u f (a + 4) j v, g, R) := vwI h.2.2.2.2.2.2.2.2.2.2.2.2.2.2.2.2.2.2.2.2.2.2.2.2.2.2.2.2.2.2.2.2.2.2.2.2.2.2.2.2.2.2.2.2.2.2.1 hj (by decide)
theorem oModel.s4 (h : oModel s R a) : s[a + 4]? = some (.inr (0, 16)) := h.2.2.2.2.2.2.2.2.2.2.2.2.2.2.2.2.2.2.2.2.2.2.2.2.2.2.2.2.2.2.2.2.2.2.2.2.2.2.2.2.2.2.2.2.2.2.1
theorem oModel.a5 (h : oModel s R a) (hj : j < 16) : ur_aI (s, f, g, R) (a + 5) 0 (nI j) = some (f (a + 5) j) := vaI h.2.2.2.2.2.2.2.2.2.2.2.2.2.2.2.2.2.2.2.2.2.2.2.2.2.2.2.2.2.2.2.2.2.2.2.2.2.2.2.2.2.2.2.2.2.2.2.1 hj (by decide)
theorem oModel.w5 (h : oModel s R a) (hj : j < 16) : ur_wI (s, f, g, R) (a + 5) 0 (nI j) v = some (s, ur_u f (a + 5) j v, g, R) := vwI h.2.2.2.2.2.2.2.2.2.2.2.2.2.2.2.2.2.2.2.2.2.2.2.2.2.2.2.2.2.2.2.2.2.2.2.2.2.2.2.2.2.2.2.2.2.2.2.1 hj (by decide)
theorem oModel.s5 (h : oModel s R a) : s[a + 5]? = some (.inr (0, 16)) := h.2.2.2.2.2.2.2.2.2.2.2.2.2.2.2.2.2.2.2.2.2.2.2.2.2.2.2.2.2.2.2.2.2.2.2.2.2.2.2.2.2.2.2.2.2.2.2.1
theorem oModel.a6 (h : oModel s R a) (hj : j < 10) : ur_aL (s, f, g, R) (a + 6) (nI j) = some (g (a + 6) j) := vaL h.2.2.2.2.2.2.2.2.2.2.2.2.2.2.2.2.2.2.2.2.2.2.2.2.2.2.2.2.2.2.2.2.2.2.2.2.2.2.2.2.2.2.2.2.2.2.2.2.1 hj (by decide)
theorem oModel.w6 (h : oModel s R a) {w : Int64} (hj : j < 10) : ur_wL (s, f, g, R) (a + 6) (nI j) w = some (s, f, ur_u g (a + 6) j w, R) := vwL h.2.2.2.2.2.2.2.2.2.2.2.2.2.2.2.2.2.2.2.2.2.2.2.2.2.2.2.2.2.2.2.2.2.2.2.2.2.2.2.2.2.2.2.2.2.2.2.2.1 hj (by decide)
theorem oModel.s6 (h : oModel s R a) : s[a + 6]? = some (.inr (1, 10)) := h.2.2.2.2.2.2.2.2.2.2.2.2.2.2.2.2.2.2.2.2.2.2.2.2.2.2.2.2.2.2.2.2.2.2.2.2.2.2.2.2.2.2.2.2.2.2.2.2.1
theorem oModel.a7 (h : oModel s R a) (hj : j < 10) : ur_aI (s, f, g, R) (a + 7) 0 (nI j) = some (f (a + 7) j) := vaI h.2.2.2.2.2.2.2.2.2.2.2.2.2.2.2.2.2.2.2.2.2.2.2.2.2.2.2.2.2.2.2.2.2.2.2.2.2.2.2.2.2.2.2.2.2.2.2.2.2.1 hj (by decide)
theorem oModel.w7 (h : oModel s R a) (hj : j < 10) : ur_wI (s, f, g, R) (a + 7) 0 (nI j) v = some (s, ur_u f (a + 7) j v, g, R) := vwI h.2.2.2.2.2.2.2.2.2.2.2.2.2.2.2.2.2.2.2.2.2.2.2.2.2.2.2.2.2.2.2.2.2.2.2.2.2.2.2.2.2.2.2.2.2.2.2.2.2.1 hj (by decide)
theorem oModel.s7 (h : oModel s R a) : s[a + 7]? = some (.inr (0, 10)) := h.2.2.2.2.2.2.2.2.2.2.2.2.2.2.2.2.2.2.2.2.2.2.2.2.2.2.2.2.2.2.2.2.2.2.2.2.2.2.2.2.2.2.2.2.2.2.2.2.2.1
theorem oModel.a8 (h : oModel s R a) (hj : j < 10) : ur_aI (s, f, g, R) (a + 8) 0 (nI j) = some (f (a + 8) j) := vaI h.2.2.2.2.2.2.2.2.2.2.2.2.2.2.2.2.2.2.2.2.2.2.2.2.2.2.2.2.2.2.2.2.2.2.2.2.2.2.2.2.2.2.2.2.2.2.2.2.2.2.1 hj (by decide)
theorem oModel.w8 (h : oModel s R a) (hj : j < 10) : ur_wI (s, f, g, R) (a + 8) 0 (nI j) v = some (s, ur_u f (a + 8) j v, g, R) := vwI h.2.2.2.2.2.2.2.2.2.2.2.2.2.2.2.2.2.2.2.2.2.2.2.2.2.2.2.2.2.2.2.2.2.2.2.2.2.2.2.2.2.2.2.2.2.2.2.2.2.2.1 hj (by decide)
theorem oModel.s8 (h : oModel s R a) : s[a + 8]? = some (.inr (0, 10)) := h.2.2.2.2.2.2.2.2.2.2.2.2.2.2.2.2.2.2.2.2.2.2.2.2.2.2.2.2.2.2.2.2.2.2.2.2.2.2.2.2.2.2.2.2.2.2.2.2.2.2.1
theorem oModel.a9 (h : oModel s R a) (hj : j < 10) : ur_aI (s, f, g, R) (a + 9) 0 (nI j) = some (f (a + 9) j) := vaI h.2.2.2.2.2.2.2.2.2.2.2.2.2.2.2.2.2.2.2.2.2.2.2.2.2.2.2.2.2.2.2.2.2.2.2.2.2.2.2.2.2.2.2.2.2.2.2.2.2.2.2.1 hj (by decide)
theorem oModel.w9 (h : oModel s R a) (hj : j < 10) : ur_wI (s, f, g, R) (a + 9) 0 (nI j) v = some (s, ur_u f (a + 9) j v, g, R) := vwI h.2.2.2.2.2.2.2.2.2.2.2.2.2.2.2.2.2.2.2.2.2.2.2.2.2.2.2.2.2.2.2.2.2.2.2.2.2.2.2.2.2.2.2.2.2.2.2.2.2.2.2.1 hj (by decide)
theorem oModel.s9 (h : oModel s R a) : s[a + 9]? = some (.inr (0, 10)) := h.2.2.2.2.2.2.2.2.2.2.2.2.2.2.2.2.2.2.2.2.2.2.2.2.2.2.2.2.2.2.2.2.2.2.2.2.2.2.2.2.2.2.2.2.2.2.2.2.2.2.2.1
theorem oModel.a10 (h : oModel s R a) (hj : j < 2) : ur_aI (s, f, g, R) (a + 10) 0 (nI j) = some (f (a + 10) j) := vaI h.2.2.2.2.2.2.2.2.2.2.2.2.2.2.2.2.2.2.2.2.2.2.2.2.2.2.2.2.2.2.2.2.2.2.2.2.2.2.2.2.2.2.2.2.2.2.2.2.2.2.2.2.1 hj (by decide)
theorem oModel.w10 (h : oModel s R a) (hj : j < 2) : ur_wI (s, f, g, R) (a + 10) 0 (nI j) v = some (s, ur_u f (a + 10) j v, g, R) := vwI h.2.2.2.2.2.2.2.2.2.2.2.2.2.2.2.2.2.2.2.2.2.2.2.2.2.2.2.2.2.2.2.2.2.2.2.2.2.2.2.2.2.2.2.2.2.2.2.2.2.2.2.2.1 hj (by decide)
theorem oModel.s10 (h : oModel s R a) : s[a + 10]? = some (.inr (0, 2)) := h.2.2.2.2.2.2.2.2.2.2.2.2.2.2.2.2.2.2.2.2.2.2.2.2.2.2.2.2.2.2.2.2.2.2.2.2.2.2.2.2.2.2.2.2.2.2.2.2.2.2.2.2.1
theorem oModel.a11 (h : oModel s R a) (hj : j < 2) : ur_aI (s, f, g, R) (a + 11) 0 (nI j) = some (f (a + 11) j) := vaI h.2.2.2.2.2.2.2.2.2.2.2.2.2.2.2.2.2.2.2.2.2.2.2.2.2.2.2.2.2.2.2.2.2.2.2.2.2.2.2.2.2.2.2.2.2.2.2.2.2.2.2.2.2.1 hj (by decide)
theorem oModel.w11 (h : oModel s R a) (hj : j < 2) : ur_wI (s, f, g, R) (a + 11) 0 (nI j) v = some (s, ur_u f (a + 11) j v, g, R) := vwI h.2.2.2.2.2.2.2.2.2.2.2.2.2.2.2.2.2.2.2.2.2.2.2.2.2.2.2.2.2.2.2.2.2.2.2.2.2.2.2.2.2.2.2.2.2.2.2.2.2.2.2.2.2.1 hj (by decide)
theorem oModel.s11 (h : oModel s R a) : s[a + 11]? = some (.inr (0, 2)) := h.2.2.2.2.2.2.2.2.2.2.2.2.2.2.2.2.2.2.2.2.2.2.2.2.2.2.2.2.2.2.2.2.2.2.2.2.2.2.2.2.2.2.2.2.2.2.2.2.2.2.2.2.2.1
theorem oModel.a12 (h : oModel s R a) (hj : j < 2000) : ur_aI (s, f, g, R) (a + 12) 0 (nI j) = some (f (a + 12) j) := vaI h.2.2.2.2.2.2.2.2.2.2.2.2.2.2.2.2.2.2.2.2.2.2.2.2.2.2.2.2.2.2.2.2.2.2.2.2.2.2.2.2.2.2.2.2.2.2.2.2.2.2.2.2.2.2.1 hj (by decide)
theorem oModel.w12 (h : oModel s R a) (hj : j < 2000) : ur_wI (s, f, g, R) (a + 12) 0 (nI j) v = some (s, ur_u f (a + 12) j v, g, R) := vwI h.2.2.2.2.2.2.2.2.2.2.2.2.2.2.2.2.2.2.2.2.2.2.2.2.2.2.2.2.2.2.2.2.2.2.2.2.2.2.2.2.2.2.2.2.2.2.2.2.2.2.2.2.2.2.1 hj (by decide)
theorem oModel.s12 (h : oModel s R a) : s[a + 12]? = some (.inr (0, 2000)) := h.2.2.2.2.2.2.2.2.2.2.2.2.2.2.2.2.2.2.2.2.2.2.2.2.2.2.2.2.2.2.2.2.2.2.2.2.2.2.2.2.2.2.2.2.2.2.2.2.2.2.2.2.2.2.1
theorem oModel.a13 (h : oModel s R a) (hj : j < 7) : ur_aI (s, f, g, R) (a + 13) 0 (nI j) = some (f (a + 13) j) := vaI h.2.2.2.2.2.2.2.2.2.2.2.2.2.2.2.2.2.2.2.2.2.2.2.2.2.2.2.2.2.2.2.2.2.2.2.2.2.2.2.2.2.2.2.2.2.2.2.2.2.2.2.2.2.2.2.1 hj (by decide)
theorem oModel.w13 (h : oModel s R a) (hj : j < 7) : ur_wI (s, f, g, R) (a + 13) 0 (nI j) v = some (s, ur_u f (a + 13) j v, g, R) := vwI h.2.2.2.2.2.2.2.2.2.2.2.2.2.2.2.2.2.2.2.2.2.2.2.2.2.2.2.2.2.2.2.2.2.2.2.2.2.2.2.2.2.2.2.2.2.2.2.2.2.2.2.2.2.2.2.1 hj (by decide)
theorem oModel.s13 (h : oModel s R a) : s[a + 13]? = some (.inr (0, 7)) := h.2.2.2.2.2.2.2.2.2.2.2.2.2.2.2.2.2.2.2.2.2.2.2.2.2.2.2.2.2.2.2.2.2.2.2.2.2.2.2.2.2.2.2.2.2.2.2.2.2.2.2.2.2.2.2.1
theorem oModel.a14 (h : oModel s R a) (hj : j < 7) : ur_aI (s, f, g, R) (a + 14) 2 (nI j) = some (f (a + 14) j) := vaI h.2.2.2.2.2.2.2.2.2.2.2.2.2.2.2.2.2.2.2.2.2.2.2.2.2.2.2.2.2.2.2.2.2.2.2.2.2.2.2.2.2.2.2.2.2.2.2.2.2.2.2.2.2.2.2.2.1 hj (by decide)
theorem oModel.w14 (h : oModel s R a) (hj : j < 7) : ur_wI (s, f, g, R) (a + 14) 2 (nI j) v = some (s, ur_u f (a + 14) j v, g, R) := vwI h.2.2.2.2.2.2.2.2.2.2.2.2.2.2.2.2.2.2.2.2.2.2.2.2.2.2.2.2.2.2.2.2.2.2.2.2.2.2.2.2.2.2.2.2.2.2.2.2.2.2.2.2.2.2.2.2.1 hj (by decide)
theorem oModel.s14 (h : oModel s R a) : s[a + 14]? = some (.inr (2, 7)) := h.2.2.2.2.2.2.2.2.2.2.2.2.2.2.2.2.2.2.2.2.2.2.2.2.2.2.2.2.2.2.2.2.2.2.2.2.2.2.2.2.2.2.2.2.2.2.2.2.2.2.2.2.2.2.2.2.1
theorem oModel.a15 (h : oModel s R a) (hj : j < 7) : ur_aI (s, f, g, R) (a + 15) 0 (nI j) = some (f (a + 15) j) := vaI h.2.2.2.2.2.2.2.2.2.2.2.2.2.2.2.2.2.2.2.2.2.2.2.2.2.2.2.2.2.2.2.2.2.2.2.2.2.2.2.2.2.2.2.2.2.2.2.2.2.2.2.2.2.2.2.2.2.1 hj (by decide)
theorem oModel.w15 (h : oModel s R a) (hj : j < 7) : ur_wI (s, f, g, R) (a + 15) 0 (nI j) v = some (s, ur_u f (a + 15) j v, g, R) := vwI h.2.2.2.2.2.2.2.2.2.2.2.2.2.2.2.2.2.2.2.2.2.2.2.2.2.2.2.2.2.2.2.2.2.2.2.2.2.2.2.2.2.2.2.2.2.2.2.2.2.2.2.2.2.2.2.2.2.1 hj (by decide)
theorem oModel.s15 (h : oModel s R a) : s[a + 15]? = some (.inr (0, 7)) := h.2.2.2.2.2.2.2.2.2.2.2.2.2.2.2.2.2.2.2.2.2.2.2.2.2.2.2.2.2.2.2.2.2.2.2.2.2.2.2.2.2.2.2.2.2.2.2.2.2.2.2.2.2.2.2.2.2.1
theorem oModel.a16 (h : oModel s R a) (hj : j < 7) : ur_aI (s, f, g, R) (a + 16) 0 (nI j) = some (f (a + 16) j) := vaI h.2.2.2.2.2.2.2.2.2.2.2.2.2.2.2.2.2.2.2.2.2.2.2.2.2.2.2.2.2.2.2.2.2.2.2.2.2.2.2.2.2.2.2.2.2.2.2.2.2.2.2.2.2.2.2.2.2.2.1 hj (by decide)
theorem oModel.w16 (h : oModel s R a) (hj : j < 7) : ur_wI (s, f, g, R) (a + 16) 0 (nI j) v = some (s, ur_u f (a + 16) j v, g, R) := vwI h.2.2.2.2.2.2.2.2.2.2.2.2.2.2.2.2.2.2.2.2.2.2.2.2.2.2.2.2.2.2.2.2.2.2.2.2.2.2.2.2.2.2.2.2.2.2.2.2.2.2.2.2.2.2.2.2.2.2.1 hj (by decide)
theorem oModel.s16 (h : oModel s R a) : s[a + 16]? = some (.inr (0, 7)) := h.2.2.2.2.2.2.2.2.2.2.2.2.2.2.2.2.2.2.2.2.2.2.2.2.2.2.2.2.2.2.2.2.2.2.2.2.2.2.2.2.2.2.2.2.2.2.2.2.2.2.2.2.2.2.2.2.2.2.1
theorem oModel.a17 (h : oModel s R a) (hj : j < 7) : ur_aI (s, f, g, R) (a + 17) 0 (nI j) = some (f (a + 17) j) := vaI h.2.2.2.2.2.2.2.2.2.2.2.2.2.2.2.2.2.2.2.2.2.2.2.2.2.2.2.2.2.2.2.2.2.2.2.2.2.2.2.2.2.2.2.2.2.2.2.2.2.2.2.2.2.2.2.2.2.2.2.1 hj (by decide)
theorem oModel.w17 (h : oModel s R a) (hj : j < 7) : ur_wI (s, f, g, R) (a + 17) 0 (nI j) v = some (s, ur_u f (a + 17) j v, g, R) := vwI h.2.2.2.2.2.2.2.2.2.2.2.2.2.2.2.2.2.2.2.2.2.2.2.2.2.2.2.2.2.2.2.2.2.2.2.2.2.2.2.2.2.2.2.2.2.2.2.2.2.2.2.2.2.2.2.2.2.2.2.1 hj (by decide)
theorem oModel.s17 (h : oModel s R a) : s[a + 17]? = some (.inr (0, 7)) := h.2.2.2.2.2.2.2.2.2.2.2.2.2.2.2.2.2.2.2.2.2.2.2.2.2.2.2.2.2.2.2.2.2.2.2.2.2.2.2.2.2.2.2.2.2.2.2.2.2.2.2.2.2.2.2.2.2.2.2.1
theorem oModel.a18 (h : oModel s R a) (hj : j < 7) : ur_aI (s, f, g, R) (a + 18) 0 (nI j) = some (f (a + 18) j) := vaI h.2.2.2.2.2.2.2.2.2.2.2.2.2.2.2.2.2.2.2.2.2.2.2.2.2.2.2.2.2.2.2.2.2.2.2.2.2.2.2.2.2.2.2.2.2.2.2.2.2.2.2.2.2.2.2.2.2.2.2.2.1 hj (by decide)
theorem oModel.w18 (h : oModel s R a) (hj : j < 7) : ur_wI (s, f, g, R) (a + 18) 0 (nI j) v = some (s, ur_u f (a + 18) j v, g, R) := vwI h.2.2.2.2.2.2.2.2.2.2.2.2.2.2.2.2.2.2.2.2.2.2.2.2.2.2.2.2.2.2.2.2.2.2.2.2.2.2.2.2.2.2.2.2.2.2.2.2.2.2.2.2.2.2.2.2.2.2.2.2.1 hj (by decide)
theorem oModel.s18 (h : oModel s R a) : s[a + 18]? = some (.inr (0, 7)) := h.2.2.2.2.2.2.2.2.2.2.2.2.2.2.2.2.2.2.2.2.2.2.2.2.2.2.2.2.2.2.2.2.2.2.2.2.2.2.2.2.2.2.2.2.2.2.2.2.2.2.2.2.2.2.2.2.2.2.2.2.1
theorem oModel.a19 (h : oModel s R a) (hj : j < 7) : ur_aI (s, f, g, R) (a + 19) 0 (nI j) = some (f (a + 19) j) := vaI h.2.2.2.2.2.2.2.2.2.2.2.2.2.2.2.2.2.2.2.2.2.2.2.2.2.2.2.2.2.2.2.2.2.2.2.2.2.2.2.2.2.2.2.2.2.2.2.2.2.2.2.2.2.2.2.2.2.2.2.2.2.1 hj (by decide)
theorem oModel.w19 (h : oModel s R a) (hj : j < 7) : ur_wI (s, f, g, R) (a + 19) 0 (nI j) v = some (s, ur_u f (a + 19) j v, g, R) := vwI h.2.2.2.2.2.2.2.2.2.2.2.2.2.2.2.2.2.2.2.2.2.2.2.2.2.2.2.2.2.2.2.2.2.2.2.2.2.2.2.2.2.2.2.2.2.2.2.2.2.2.2.2.2.2.2.2.2.2.2.2.2.1 hj (by decide)
theorem oModel.s19 (h : oModel s R a) : s[a + 19]? = some (.inr (0, 7)) := h.2.2.2.2.2.2.2.2.2.2.2.2.2.2.2.2.2.2.2.2.2.2.2.2.2.2.2.2.2.2.2.2.2.2.2.2.2.2.2.2.2.2.2.2.2.2.2.2.2.2.2.2.2.2.2.2.2.2.2.2.2.1
theorem oModel.a20 (h : oModel s R a) (hj : j < 7) : ur_aI (s, f, g, R) (a + 20) 0 (nI j) = some (f (a + 20) j) := vaI h.2.2.2.2.2.2.2.2.2.2.2.2.2.2.2.2.2.2.2.2.2.2.2.2.2.2.2.2.2.2.2.2.2.2.2.2.2.2.2.2.2.2.2.2.2.2.2.2.2.2.2.2.2.2.2.2.2.2.2.2.2.2.1 hj (by decide)
theorem oModel.w20 (h : oModel s R a) (hj : j < 7) : ur_wI (s, f, g, R) (a + 20) 0 (nI j) v = some (s, ur_u f (a + 20) j v, g, R) := vwI h.2.2.2.2.2.2.2.2.2.2.2.2.2.2.2.2.2.2.2.2.2.2.2.2.2.2.2.2.2.2.2.2.2.2.2.2.2.2.2.2.2.2.2.2.2.2.2.2.2.2.2.2.2.2.2.2.2.2.2.2.2.2.1 hj (by decide)
theorem oModel.s20 (h : oModel s R a) : s[a + 20]? = some (.inr (0, 7)) := h.2.2.2.2.2.2.2.2.2.2.2.2.2.2.2.2.2.2.2.2.2.2.2.2.2.2.2.2.2.2.2.2.2.2.2.2.2.2.2.2.2.2.2.2.2.2.2.2.2.2.2.2.2.2.2.2.2.2.2.2.2.2.1
theorem oModel.a21 (h : oModel s R a) (hj : j < 7) : ur_aI (s, f, g, R) (a + 21) 0 (nI j) = some (f (a + 21) j) := vaI h.2.2.2.2.2.2.2.2.2.2.2.2.2.2.2.2.2.2.2.2.2.2.2.2.2.2.2.2.2.2.2.2.2.2.2.2.2.2.2.2.2.2.2.2.2.2.2.2.2.2.2.2.2.2.2.2.2.2.2.2.2.2.2.1 hj (by decide)
theorem oModel.w21 (h : oModel s R a) (hj : j < 7) : ur_wI (s, f, g, R) (a + 21) 0 (nI j) v = some (s, ur_u f (a + 21) j v, g, R) := vwI h.2.2.2.2.2.2.2.2.2.2.2.2.2.2.2.2.2.2.2.2.2.2.2.2.2.2.2.2.2.2.2.2.2.2.2.2.2.2.2.2.2.2.2.2.2.2.2.2.2.2.2.2.2.2.2.2.2.2.2.2.2.2.2.1 hj (by decide)
theorem oModel.s21 (h : oModel s R a) : s[a + 21]? = some (.inr (0, 7)) := h.2.2.2.2.2.2.2.2.2.2.2.2.2.2.2.2.2.2.2.2.2.2.2.2.2.2.2.2.2.2.2.2.2.2.2.2.2.2.2.2.2.2.2.2.2.2.2.2.2.2.2.2.2.2.2.2.2.2.2.2.2.2.2.1
theorem oModel.a22 (h : oModel s R a) (hj : j < 7) : ur_aI (s, f, g, R) (a + 22) 0 (nI j) = some (f (a + 22) j) := vaI h.2.2.2.2.2.2.2.2.2.2.2.2.2.2.2.2.2.2.2.2.2.2.2.2.2.2.2.2.2.2.2.2.2.2.2.2.2.2.2.2.2.2.2.2.2.2.2.2.2.2.2.2.2.2.2.2.2.2.2.2.2.2.2.2.1 hj (by decide)
theorem oModel.w22 (h : oModel s R a) (hj : j < 7) : ur_wI (s, f, g, R) (a + 22) 0 (nI j) v = some (s, ur_u f (a + 22) j v, g, R) := vwI h.2.2.2.2.2.2.2.2.2.2.2.2.2.2.2.2.2.2.2.2.2.2.2.2.2.2.2.2.2.2.2.2.2.2.2.2.2.2.2.2.2.2.2.2.2.2.2.2.2.2.2.2.2.2.2.2.2.2.2.2.2.2.2.2.1 hj (by decide)
theorem oModel.s22 (h : oModel s R a) : s[a + 22]? = some (.inr (0, 7)) := h.2.2.2.2.2.2.2.2.2.2.2.2.2.2.2.2.2.2.2.2.2.2.2.2.2.2.2.2.2.2.2.2.2.2.2.2.2.2.2.2.2.2.2.2.2.2.2.2.2.2.2.2.2.2.2.2.2.2.2.2.2.2.2.2.1
theorem oModel.a23 (h : oModel s R a) (hj : j < 7) : ur_aI (s, f, g, R) (a + 23) 0 (nI j) = some (f (a + 23) j) := vaI h.2.2.2.2.2.2.2.2.2.2.2.2.2.2.2.2.2.2.2.2.2.2.2.2.2.2.2.2.2.2.2.2.2.2.2.2.2.2.2.2.2.2.2.2.2.2.2.2.2.2.2.2.2.2.2.2.2.2.2.2.2.2.2.2.2.1 hj (by decide)
theorem oModel.w23 (h : oModel s R a) (hj : j < 7) : ur_wI (s, f, g, R) (a + 23) 0 (nI j) v = some (s, ur_u f (a + 23) j v, g, R) := vwI h.2.2.2.2.2.2.2.2.2.2.2.2.2.2.2.2.2.2.2.2.2.2.2.2.2.2.2.2.2.2.2.2.2.2.2.2.2.2.2.2.2.2.2.2.2.2.2.2.2.2.2.2.2.2.2.2.2.2.2.2.2.2.2.2.2.1 hj (by decide)
theorem oModel.s23 (h : oModel s R a) : s[a + 23]? = some (.inr (0, 7)) := h.2.2.2.2.2.2.2.2.2.2.2.2.2.2.2.2.2.2.2.2.2.2.2.2.2.2.2.2.2.2.2.2.2.2.2.2.2.2.2.2.2.2.2.2.2.2.2.2.2.2.2.2.2.2.2.2.2.2.2.2.2.2.2.2.2.1
theorem oModel.a24 (h : oModel s R a) (hj : j < 20) : ur_aI (s, f, g, R) (a + 24) 0 (nI j) = some (f (a + 24) j) := vaI h.2.2.2.2.2.2.2.2.2.2.2.2.2.2.2.2.2.2.2.2.2.2.2.2.2.2.2.2.2.2.2.2.2.2.2.2.2.2.2.2.2.2.2.2.2.2.2.2.2.2.2.2.2.2.2.2.2.2.2.2.2.2.2.2.2.2.1 hj (by decide)
theorem oModel.w24 (h : oModel s R a) (hj : j < 20) : ur_wI (s, f, g, R) (a + 24) 0 (nI j) v = some (s, ur_u f (a + 24) j v, g, R) := vwI h.2.2.2.2.2.2.2.2.2.2.2.2.2.2.2.2.2.2.2.2.2.2.2.2.2.2.2.2.2.2.2.2.2.2.2.2.2.2.2.2.2.2.2.2.2.2.2.2.2.2.2.2.2.2.2.2.2.2.2.2.2.2.2.2.2.2.1 hj (by decide)
theorem oModel.s24 (h : oModel s R a) : s[a + 24]? = some (.inr (0, 20)) := h.2.2.2.2.2.2.2.2.2.2.2.2.2.2.2.2.2.2.2.2.2.2.2.2.2.2.2.2.2.2.2.2.2.2.2.2.2.2.2.2.2.2.2.2.2.2.2.2.2.2.2.2.2.2.2.2.2.2.2.2.2.2.2.2.2.2.1
theorem oModel.a25 (h : oModel s R a) (hj : j < 6) : ur_aI (s, f, g, R) (a + 25) 0 (nI j) = some (f (a + 25) j) := vaI h.2.2.2.2.2.2.2.2.2.2.2.2.2.2.2.2.2.2.2.2.2.2.2.2.2.2.2.2.2.2.2.2.2.2.2.2.2.2.2.2.2.2.2.2.2.2.2.2.2.2.2.2.2.2.2.2.2.2.2.2.2.2.2.2.2.2.2.1 hj (by decide)
theorem oModel.w25 (h : oModel s R a) (hj : j < 6) : ur_wI (s, f, g, R) (a + 25) 0 (nI j) v = some (s, ur_u f (a + 25) j v, g, R) := vwI h.2.2.2.2.2.2.2.2.2.2.2.2.2.2.2.2.2.2.2.2.2.2.2.2.2.2.2.2.2.2.2.2.2.2.2.2.2.2.2.2.2.2.2.2.2.2.2.2.2.2.2.2.2.2.2.2.2.2.2.2.2.2.2.2.2.2.2.1 hj (by decide)
theorem oModel.s25 (h : oModel s R a) : s[a + 25]? = some (.inr (0, 6)) := h.2.2.2.2.2.2.2.2.2.2.2.2.2.2.2.2.2.2.2.2.2.2.2.2.2.2.2.2.2.2.2.2.2.2.2.2.2.2.2.2.2.2.2.2.2.2.2.2.2.2.2.2.2.2.2.2.2.2.2.2.2.2.2.2.2.2.2.1
theorem oModel.a26 (h : oModel s R a) (hj : j < 240) : ur_aI (s, f, g, R) (a + 26) 0 (nI j) = some (f (a + 26) j) := vaI h.2.2.2.2.2.2.2.2.2.2.2.2.2.2.2.2.2.2.2.2.2.2.2.2.2.2.2.2.2.2.2.2.2.2.2.2.2.2.2.2.2.2.2.2.2.2.2.2.2.2.2.2.2.2.2.2.2.2.2.2.2.2.2.2.2.2.2.2.1 hj (by decide)
theorem oModel.w26 (h : oModel s R a) (hj : j < 240) : ur_wI (s, f, g, R) (a + 26) 0 (nI j) v = some (s, ur_u f (a + 26) j v, g, R) := vwI h.2.2.2.2.2.2.2.2.2.2.2.2.2.2.2.2.2.2.2.2.2.2.2.2.2.2.2.2.2.2.2.2.2.2.2.2.2.2.2.2.2.2.2.2.2.2.2.2.2.2.2.2.2.2.2.2.2.2.2.2.2.2.2.2.2.2.2.2.1 hj (by decide)
theorem oModel.s26 (h : oModel s R a) : s[a + 26]? = some (.inr (0, 240)) := h.2.2.2.2.2.2.2.2.2.2.2.2.2.2.2.2.2.2.2.2.2.2.2.2.2.2.2.2.2.2.2.2.2.2.2.2.2.2.2.2.2.2.2.2.2.2.2.2.2.2.2.2.2.2.2.2.2.2.2.2.2.2.2.2.2.2.2.2.1
theorem oModel.a27 (h : oModel s R a) (hj : j < 240) : ur_aI (s, f, g, R) (a + 27) 0 (nI j) = some (f (a + 27) j) := vaI h.2.2.2.2.2.2.2.2.2.2.2.2.2.2.2.2.2.2.2.2.2.2.2.2.2.2.2.2.2.2.2.2.2.2.2.2.2.2.2.2.2.2.2.2.2.2.2.2.2.2.2.2.2.2.2.2.2.2.2.2.2.2.2.2.2.2.2.2.2.1 hj (by decide)
theorem oModel.w27 (h : oModel s R a) (hj : j < 240) : ur_wI (s, f, g, R) (a + 27) 0 (nI j) v = some (s, ur_u f (a + 27) j v, g, R) := vwI h.2.2.2.2.2.2.2.2.2.2.2.2.2.2.2.2.2.2.2.2.2.2.2.2.2.2.2.2.2.2.2.2.2.2.2.2.2.2.2.2.2.2.2.2.2.2.2.2.2.2.2.2.2.2.2.2.2.2.2.2.2.2.2.2.2.2.2.2.2.1 hj (by decide)
theorem oModel.s27 (h : oModel s R a) : s[a + 27]? = some (.inr (0, 240)) := h.2.2.2.2.2.2.2.2.2.2.2.2.2.2.2.2.2.2.2.2.2.2.2.2.2.2.2.2.2.2.2.2.2.2.2.2.2.2.2.2.2.2.2.2.2.2.2.2.2.2.2.2.2.2.2.2.2.2.2.2.2.2.2.2.2.2.2.2.2.1
theorem oModel.a28 (h : oModel s R a) (hj : j < 240) : ur_aI (s, f, g, R) (a + 28) 0 (nI j) = some (f (a + 28) j) := vaI h.2.2.2.2.2.2.2.2.2.2.2.2.2.2.2.2.2.2.2.2.2.2.2.2.2.2.2.2.2.2.2.2.2.2.2.2.2.2.2.2.2.2.2.2.2.2.2.2.2.2.2.2.2.2.2.2.2.2.2.2.2.2.2.2.2.2.2.2.2.2.1 hj (by decide)
theorem oModel.w28 (h : oModel s R a) (hj : j < 240) : ur_wI (s, f, g, R) (a + 28) 0 (nI j) v = some (s, ur_u f (a + 28) j v, g, R) := vwI h.2.2.2.2.2.2.2.2.2.2.2.2.2.2.2.2.2.2.2.2.2.2.2.2.2.2.2.2.2.2.2.2.2.2.2.2.2.2.2.2.2.2.2.2.2.2.2.2.2.2.2.2.2.2.2.2.2.2.2.2.2.2.2.2.2.2.2.2.2.2.1 hj (by decide)
theorem oModel.s28 (h : oModel s R a) : s[a + 28]? = some (.inr (0, 240)) := h.2.2.2.2.2.2.2.2.2.2.2.2.2.2.2.2.2.2.2.2.2.2.2.2.2.2.2.2.2.2.2.2.2.2.2.2.2.2.2.2.2.2.2.2.2.2.2.2.2.2.2.2.2.2.2.2.2.2.2.2.2.2.2.2.2.2.2.2.2.2.1
theorem oModel.a29 (h : oModel s R a) (hj : j < 5) : ur_aI (s, f, g, R) (a + 29) 0 (nI j) = some (f (a + 29) j) := vaI h.2.2.2.2.2.2.2.2.2.2.2.2.2.2.2.2.2.2.2.2.2.2.2.2.2.2.2.2.2.2.2.2.2.2.2.2.2.2.2.2.2.2.2.2.2.2.2.2.2.2.2.2.2.2.2.2.2.2.2.2.2.2.2.2.2.2.2.2.2.2.2.1 hj (by decide)
theorem oModel.w29 (h : oModel s R a) (hj : j < 5) : ur_wI (s, f, g, R) (a + 29) 0 (nI j) v = some (s, ur_u f (a + 29) j v, g, R) := vwI h.2.2.2.2.2.2.2.2.2.2.2.2.2.2.2.2.2.2.2.2.2.2.2.2.2.2.2.2.2.2.2.2.2.2.2.2.2.2.2.2.2.2.2.2.2.2.2.2.2.2.2.2.2.2.2.2.2.2.2.2.2.2.2.2.2.2.2.2.2.2.2.1 hj (by decide)
theorem oModel.s29 (h : oModel s R a) : s[a + 29]? = some (.inr (0, 5)) := h.2.2.2.2.2.2.2.2.2.2.2.2.2.2.2.2.2.2.2.2.2.2.2.2.2.2.2.2.2.2.2.2.2.2.2.2.2.2.2.2.2.2.2.2.2.2.2.2.2.2.2.2.2.2.2.2.2.2.2.2.2.2.2.2.2.2.2.2.2.2.2.1
theorem oModel.a30 (h : oModel s R a) (hj : j < 40) : ur_aI (s, f, g, R) (a + 30) 0 (nI j) = some (f (a + 30) j) := vaI h.2.2.2.2.2.2.2.2.2.2.2.2.2.2.2.2.2.2.2.2.2.2.2.2.2.2.2.2.2.2.2.2.2.2.2.2.2.2.2.2.2.2.2.2.2.2.2.2.2.2.2.2.2.2.2.2.2.2.2.2.2.2.2.2.2.2.2.2.2.2.2.2.1 hj (by decide)
theorem oModel.w30 (h : oModel s R a) (hj : j < 40) : ur_wI (s, f, g, R) (a + 30) 0 (nI j) v = some (s, ur_u f (a + 30) j v, g, R) := vwI h.2.2.2.2.2.2.2.2.2.2.2.2.2.2.2.2.2.2.2.2.2.2.2.2.2.2.2.2.2.2.2.2.2.2.2.2.2.2.2.2.2.2.2.2.2.2.2.2.2.2.2.2.2.2.2.2.2.2.2.2.2.2.2.2.2.2.2.2.2.2.2.2.1 hj (by decide)
theorem oModel.s30 (h : oModel s R a) : s[a + 30]? = some (.inr (0, 40)) := h.2.2.2.2.2.2.2.2.2.2.2.2.2.2.2.2.2.2.2.2.2.2.2.2.2.2.2.2.2.2.2.2.2.2.2.2.2.2.2.2.2.2.2.2.2.2.2.2.2.2.2.2.2.2.2.2.2.2.2.2.2.2.2.2.2.2.2.2.2.2.2.2.1
theorem oModel.a31 (h : oModel s R a) (hj : j < 40) : ur_aI (s, f, g, R) (a + 31) 0 (nI j) = some (f (a + 31) j) := vaI h.2.2.2.2.2.2.2.2.2.2.2.2.2.2.2.2.2.2.2.2.2.2.2.2.2.2.2.2.2.2.2.2.2.2.2.2.2.2.2.2.2.2.2.2.2.2.2.2.2.2.2.2.2.2.2.2.2.2.2.2.2.2.2.2.2.2.2.2.2.2.2.2.2.1 hj (by decide)
theorem oModel.w31 (h : oModel s R a) (hj : j < 40) : ur_wI (s, f, g, R) (a + 31) 0 (nI j) v = some (s, ur_u f (a + 31) j v, g, R) := vwI h.2.2.2.2.2.2.2.2.2.2.2.2.2.2.2.2.2.2.2.2.2.2.2.2.2.2.2.2.2.2.2.2.2.2.2.2.2.2.2.2.2.2.2.2.2.2.2.2.2.2.2.2.2.2.2.2.2.2.2.2.2.2.2.2.2.2.2.2.2.2.2.2.2.1 hj (by decide)
theorem oModel.s31 (h : oModel s R a) : s[a + 31]? = some (.inr (0, 40)) := h.2.2.2.2.2.2.2.2.2.2.2.2.2.2.2.2.2.2.2.2.2.2.2.2.2.2.2.2.2.2.2.2.2.2.2.2.2.2.2.2.2.2.2.2.2.2.2.2.2.2.2.2.2.2.2.2.2.2.2.2.2.2.2.2.2.2.2.2.2.2.2.2.2.1
theorem oModel.a32 (h : oModel s R a) (hj : j < 40) : ur_aI (s, f, g, R) (a + 32) 2 (nI j) = some (f (a + 32) j) := vaI h.2.2.2.2.2.2.2.2.2.2.2.2.2.2.2.2.2.2.2.2.2.2.2.2.2.2.2.2.2.2.2.2.2.2.2.2.2.2.2.2.2.2.2.2.2.2.2.2.2.2.2.2.2.2.2.2.2.2.2.2.2.2.2.2.2.2.2.2.2.2.2.2.2.2.1 hj (by decide)
theorem oModel.w32 (h : oModel s R a) (hj : j < 40) : ur_wI (s, f, g, R) (a + 32) 2 (nI j) v = some (s, ur_u f (a + 32) j v, g, R) := vwI h.2.2.2.2.2.2.2.2.2.2.2.2.2.2.2.2.2.2.2.2.2.2.2.2.2.2.2.2.2.2.2.2.2.2.2.2.2.2.2.2.2.2.2.2.2.2.2.2.2.2.2.2.2.2.2.2.2.2.2.2.2.2.2.2.2.2.2.2.2.2.2.2.2.2.1 hj (by decide)
theorem oModel.s32 (h : oModel s R a) : s[a + 32]? = some (.inr (2, 40)) := h.2.2.2.2.2.2.2.2.2.2.2.2.2.2.2.2.2.2.2.2.2.2.2.2.2.2.2.2.2.2.2.2.2.2.2.2.2.2.2.2.2.2.2.2.2.2.2.2.2.2.2.2.2.2.2.2.2.2.2.2.2.2.2.2.2.2.2.2.2.2.2.2.2.2.1
theorem oModel.a33 (h : oModel s R a) (hj : j < 29) : ur_aI (s, f, g, R) (a + 33) 0 (nI j) = some (f (a + 33) j) := vaI h.2.2.2.2.2.2.2.2.2.2.2.2.2.2.2.2.2.2.2.2.2.2.2.2.2.2.2.2.2.2.2.2.2.2.2.2.2.2.2.2.2.2.2.2.2.2.2.2.2.2.2.2.2.2.2.2.2.2.2.2.2.2.2.2.2.2.2.2.2.2.2.2.2.2.2.1 hj (by decide)
theorem oModel.w33 (h : oModel s R a) (hj : j < 29) : ur_wI (s, f, g, R) (a + 33) 0 (nI j) v = some (s, ur_u f (a + 33) j v, g, R) := vwI h.2.2.2.2.2.2.2.2.2.2.2.2.2.2.2.2.2.2.2.2.2.2.2.2.2.2.2.2.2.2.2.2.2.2.2.2.2.2.2.2.2.2.2.2.2.2.2.2.2.2.2.2.2.2.2.2.2.2.2.2.2.2.2.2.2.2.2.2.2.2.2.2.2.2.2.1 hj (by decide)
theorem oModel.s33 (h : oModel s R a) : s[a + 33]? = some (.inr (0, 29)) := h.2.2.2.2.2.2.2.2.2.2.2.2.2.2.2.2.2.2.2.2.2.2.2.2.2.2.2.2.2.2.2.2.2.2.2.2.2.2.2.2.2.2.2.2.2.2.2.2.2.2.2.2.2.2.2.2.2.2.2.2.2.2.2.2.2.2.2.2.2.2.2.2.2.2.2.1
theorem oModel.a34 (h : oModel s R a) (hj : j < 29) : ur_aI (s, f, g, R) (a + 34) 0 (nI j) = some (f (a + 34) j) := vaI h.2.2.2.2.2.2.2.2.2.2.2.2.2.2.2.2.2.2.2.2.2.2.2.2.2.2.2.2.2.2.2.2.2.2.2.2.2.2.2.2.2.2.2.2.2.2.2.2.2.2.2.2.2.2.2.2.2.2.2.2.2.2.2.2.2.2.2.2.2.2.2.2.2.2.2.2.1 hj (by decide)
theorem oModel.w34 (h : oModel s R a) (hj : j < 29) : ur_wI (s, f, g, R) (a + 34) 0 (nI j) v = some (s, ur_u f (a + 34) j v, g, R) := vwI h.2.2.2.2.2.2.2.2.2.2.2.2.2.2.2.2.2.2.2.2.2.2.2.2.2.2.2.2.2.2.2.2.2.2.2.2.2.2.2.2.2.2.2.2.2.2.2.2.2.2.2.2.2.2.2.2.2.2.2.2.2.2.2.2.2.2.2.2.2.2.2.2.2.2.2.2.1 hj (by decide)
theorem oModel.s34 (h : oModel s R a) : s[a + 34]? = some (.inr (0, 29)) := h.2.2.2.2.2.2.2.2.2.2.2.2.2.2.2.2.2.2.2.2.2.2.2.2.2.2.2.2.2.2.2.2.2.2.2.2.2.2.2.2.2.2.2.2.2.2.2.2.2.2.2.2.2.2.2.2.2.2.2.2.2.2.2.2.2.2.2.2.2.2.2.2.2.2.2.2.1
theorem oModel.a35 (h : oModel s R a) (hj : j < 29) : ur_aI (s, f, g, R) (a + 35) 0 (nI j) = some (f (a + 35) j) := vaI h.2.2.2.2.2.2.2.2.2.2.2.2.2.2.2.2.2.2.2.2.2.2.2.2.2.2.2.2.2.2.2.2.2.2.2.2.2.2.2.2.2.2.2.2.2.2.2.2.2.2.2.2.2.2.2.2.2.2.2.2.2.2.2.2.2.2.2.2.2.2.2.2.2.2.2.2.2.1 hj (by decide)
theorem oModel.w35 (h : oModel s R a) (hj : j < 29) : ur_wI (s, f, g, R) (a + 35) 0 (nI j) v = some (s, ur_u f (a + 35) j v, g, R) := vwI h.2.2.2.2.2.2.2.2.2.2.2.2.2.2.2.2.2.2.2.2.2.2.2.2.2.2.2.2.2.2.2.2.2.2.2.2.2.2.2.2.2.2.2.2.2.2.2.2.2.2.2.2.2.2.2.2.2.2.2.2.2.2.2.2.2.2.2.2.2.2.2.2.2.2.2.2.2.1 hj (by decide)
theorem oModel.s35 (h : oModel s R a) : s[a + 35]? = some (.inr (0, 29)) := h.2.2.2.2.2.2.2.2.2.2.2.2.2.2.2.2.2.2.2.2.2.2.2.2.2.2.2.2.2.2.2.2.2.2.2.2.2.2.2.2.2.2.2.2.2.2.2.2.2.2.2.2.2.2.2.2.2.2.2.2.2.2.2.2.2.2.2.2.2.2.2.2.2.2.2.2.2.1
theorem oModel.a36 (h : oModel s R a) (hj : j < 116) : ur_aI (s, f, g, R) (a + 36) 0 (nI j) = some (f (a + 36) j) := vaI h.2.2.2.2.2.2.2.2.2.2.2.2.2.2.2.2.2.2.2.2.2.2.2.2.2.2.2.2.2.2.2.2.2.2.2.2.2.2.2.2.2.2.2.2.2.2.2.2.2.2.2.2.2.2.2.2.2.2.2.2.2.2.2.2.2.2.2.2.2.2.2.2.2.2.2.2.2.2.1 hj (by decide)
theorem oModel.w36 (h : oModel s R a) (hj : j < 116) : ur_wI (s, f, g, R) (a + 36) 0 (nI j) v = some (s, ur_u f (a + 36) j v, g, R) := vwI h.2.2.2.2.2.2.2.2.2.2.2.2.2.2.2.2.2.2.2.2.2.2.2.2.2.2.2.2.2.2.2.2.2.2.2.2.2.2.2.2.2.2.2.2.2.2.2.2.2.2.2.2.2.2.2.2.2.2.2.2.2.2.2.2.2.2.2.2.2.2.2.2.2.2.2.2.2.2.1 hj (by decide)
theorem oModel.s36 (h : oModel s R a) : s[a + 36]? = some (.inr (0, 116)) := h.2.2.2.2.2.2.2.2.2.2.2.2.2.2.2.2.2.2.2.2.2.2.2.2.2.2.2.2.2.2.2.2.2.2.2.2.2.2.2.2.2.2.2.2.2.2.2.2.2.2.2.2.2.2.2.2.2.2.2.2.2.2.2.2.2.2.2.2.2.2.2.2.2.2.2.2.2.2.1
theorem oModel.a37 (h : oModel s R a) (hj : j < 464) : ur_aI (s, f, g, R) (a + 37) 0 (nI j) = some (f (a + 37) j) := vaI h.2.2.2.2.2.2.2.2.2.2.2.2.2.2.2.2.2.2.2.2.2.2.2.2.2.2.2.2.2.2.2.2.2.2.2.2.2.2.2.2.2.2.2.2.2.2.2.2.2.2.2.2.2.2.2.2.2.2.2.2.2.2.2.2.2.2.2.2.2.2.2.2.2.2.2.2.2.2.2.1 hj (by decide)
theorem oModel.w37 (h : oModel s R a) (hj : j < 464) : ur_wI (s, f, g, R) (a + 37) 0 (nI j) v = some (s, ur_u f (a + 37) j v, g, R) := vwI h.2.2.2.2.2.2.2.2.2.2.2.2.2.2.2.2.2.2.2.2.2.2.2.2.2.2.2.2.2.2.2.2.2.2.2.2.2.2.2.2.2.2.2.2.2.2.2.2.2.2.2.2.2.2.2.2.2.2.2.2.2.2.2.2.2.2.2.2.2.2.2.2.2.2.2.2.2.2.2.1 hj (by decide)
theorem oModel.s37 (h : oModel s R a) : s[a + 37]? = some (.inr (0, 464)) := h.2.2.2.2.2.2.2.2.2.2.2.2.2.2.2.2.2.2.2.2.2.2.2.2.2.2.2.2.2.2.2.2.2.2.2.2.2.2.2.2.2.2.2.2.2.2.2.2.2.2.2.2.2.2.2.2.2.2.2.2.2.2.2.2.2.2.2.2.2.2.2.2.2.2.2.2.2.2.2.1
theorem oModel.a38 (h : oModel s R a) (hj : j < 4) : ur_aI (s, f, g, R) (a + 38) 2 (nI j) = some (f (a + 38) j) := vaI h.2.2.2.2.2.2.2.2.2.2.2.2.2.2.2.2.2.2.2.2.2.2.2.2.2.2.2.2.2.2.2.2.2.2.2.2.2.2.2.2.2.2.2.2.2.2.2.2.2.2.2.2.2.2.2.2.2.2.2.2.2.2.2.2.2.2.2.2.2.2.2.2.2.2.2.2.2.2.2.2.1 hj (by decide)
theorem oModel.w38 (h : oModel s R a) (hj : j < 4) : ur_wI (s, f, g, R) (a + 38) 2 (nI j) v = some (s, ur_u f (a + 38) j v, g, R) := vwI h.2.2.2.2.2.2.2.2.2.2.2.2.2.2.2.2.2.2.2.2.2.2.2.2.2.2.2.2.2.2.2.2.2.2.2.2.2.2.2.2.2.2.2.2.2.2.2.2.2.2.2.2.2.2.2.2.2.2.2.2.2.2.2.2.2.2.2.2.2.2.2.2.2.2.2.2.2.2.2.2.1 hj (by decide)
theorem oModel.s38 (h : oModel s R a) : s[a + 38]? = some (.inr (2, 4)) := h.2.2.2.2.2.2.2.2.2.2.2.2.2.2.2.2.2.2.2.2.2.2.2.2.2.2.2.2.2.2.2.2.2.2.2.2.2.2.2.2.2.2.2.2.2.2.2.2.2.2.2.2.2.2.2.2.2.2.2.2.2.2.2.2.2.2.2.2.2.2.2.2.2.2.2.2.2.2.2.2.1
theorem oModel.a39 (h : oModel s R a) (hj : j < 5) : ur_aI (s, f, g, R) (a + 39) 0 (nI j) = some (f (a + 39) j) := vaI h.2.2.2.2.2.2.2.2.2.2.2.2.2.2.2.2.2.2.2.2.2.2.2.2.2.2.2.2.2.2.2.2.2.2.2.2.2.2.2.2.2.2.2.2.2.2.2.2.2.2.2.2.2.2.2.2.2.2.2.2.2.2.2.2.2.2.2.2.2.2.2.2.2.2.2.2.2.2.2.2.2.1 hj (by decide)
theorem oModel.w39 (h : oModel s R a) (hj : j < 5) : ur_wI (s, f, g, R) (a + 39) 0 (nI j) v = some (s, ur_u f (a + 39) j v, g, R) := vwI h.2.2.2.2.2.2.2.2.2.2.2.2.2.2.2.2.2.2.2.2.2.2.2.2.2.2.2.2.2.2.2.2.2.2.2.2.2.2.2.2.2.2.2.2.2.2.2.2.2.2.2.2.2.2.2.2.2.2.2.2.2.2.2.2.2.2.2.2.2.2.2.2.2.2.2.2.2.2.2.2.2.1 hj (by decide)
theorem oModel.s39 (h : oModel s R a) : s[a + 39]? = some (.inr (0, 5)) := h.2.2.2.2.2.2.2.2.2.2.2.2.2.2.2.2.2.2.2.2.2.2.2.2.2.2.2.2.2.2.2.2.2.2.2.2.2.2.2.2.2.2.2.2.2.2.2.2.2.2.2.2.2.2.2.2.2.2.2.2.2.2.2.2.2.2.2.2.2.2.2.2.2.2.2.2.2.2.2.2.2.1
theorem oModel.a40 (h : oModel s R a) (hj : j < 5) : ur_aI (s, f, g, R) (a + 40) 0 (nI j) = some (f (a + 40) j) := vaI h.2.2.2.2.2.2.2.2.2.2.2.2.2.2.2.2.2.2.2.2.2.2.2.2.2.2.2.2.2.2.2.2.2.2.2.2.2.2.2.2.2.2.2.2.2.2.2.2.2.2.2.2.2.2.2.2.2.2.2.2.2.2.2.2.2.2.2.2.2.2.2.2.2.2.2.2.2.2.2.2.2.2.1 hj (by decide)
theorem oModel.w40 (h : oModel s R a) (hj : j < 5) : ur_wI (s, f, g, R) (a + 40) 0 (nI j) v = some (s, ur_u f (a + 40) j v, g, R) := vwI h.2.2.2.2.2.2.2.2.2.2.2.2.2.2.2.2.2.2.2.2.2.2.2.2.2.2.2.2.2.2.2.2.2.2.2.2.2.2.2.2.2.2.2.2.2.2.2.2.2.2.2.2.2.2.2.2.2.2.2.2.2.2.2.2.2.2.2.2.2.2.2.2.2.2.2.2.2.2.2.2.2.2.1 hj (by decide)
theorem oModel.s40 (h : oModel s R a) : s[a + 40]? = some (.inr (0, 5)) := h.2.2.2.2.2.2.2.2.2.2.2.2.2.2.2.2.2.2.2.2.2.2.2.2.2.2.2.2.2.2.2.2.2.2.2.2.2.2.2.2.2.2.2.2.2.2.2.2.2.2.2.2.2.2.2.2.2.2.2.2.2.2.2.2.2.2.2.2.2.2.2.2.2.2.2.2.2.2.2.2.2.2.1
theorem oModel.a41 (h : oModel s R a) (hj : j < 40) : ur_aI (s, f, g, R) (a + 41) 0 (nI j) = some (f (a + 41) j) := vaI h.2.2.2.2.2.2.2.2.2.2.2.2.2.2.2.2.2.2.2.2.2.2.2.2.2.2.2.2.2.2.2.2.2.2.2.2.2.2.2.2.2.2.2.2.2.2.2.2.2.2.2.2.2.2.2.2.2.2.2.2.2.2.2.2.2.2.2.2.2.2.2.2.2.2.2.2.2.2.2.2.2.2.2.1 hj (by decide)
theorem oModel.w41 (h : oModel s R a) (hj : j < 40) : ur_wI (s, f, g, R) (a + 41) 0 (nI j) v = some (s, ur_u f (a + 41) j v, g, R) := vwI h.2.2.2.2.2.2.2.2.2.2.2.2.2.2.2.2.2.2.2.2.2.2.2.2.2.2.2.2.2.2.2.2.2.2.2.2.2.2.2.2.2.2.2.2.2.2.2.2.2.2.2.2.2.2.2.2.2.2.2.2.2.2.2.2.2.2.2.2.2.2.2.2.2.2.2.2.2.2.2.2.2.2.2.1 hj (by decide)
theorem oModel.s41 (h : oModel s R a) : s[a + 41]? = some (.inr (0, 40)) := h.2.2.2.2.2.2.2.2.2.2.2.2.2.2.2.2.2.2.2.2.2.2.2.2.2.2.2.2.2.2.2.2.2.2.2.2.2.2.2.2.2.2.2.2.2.2.2.2.2.2.2.2.2.2.2.2.2.2.2.2.2.2.2.2.2.2.2.2.2.2.2.2.2.2.2.2.2.2.2.2.2.2.2.1
theorem oModel.a42 (h : oModel s R a) (hj : j < 31) : ur_aI (s, f, g, R) (a + 42) 0 (nI j) = some (f (a + 42) j) := vaI h.2.2.2.2.2.2.2.2.2.2.2.2.2.2.2.2.2.2.2.2.2.2.2.2.2.2.2.2.2.2.2.2.2.2.2.2.2.2.2.2.2.2.2.2.2.2.2.2.2.2.2.2.2.2.2.2.2.2.2.2.2.2.2.2.2.2.2.2.2.2.2.2.2.2.2.2.2.2.2.2.2.2.2.2.1 hj (by decide)
theorem oModel.w42 (h : oModel s R a) (hj : j < 31) : ur_wI (s, f, g, R) (a + 42) 0 (nI j) v = some (s, ur_u f (a + 42) j v, g, R) := vwI h.2.2.2.2.2.2.2.2.2.2.2.2.2.2.2.2.2.2.2.2.2.2.2.2.2.2.2.2.2.2.2.2.2.2.2.2.2.2.2.2.2.2.2.2.2.2.2.2.2.2.2.2.2.2.2.2.2.2.2.2.2.2.2.2.2.2.2.2.2.2.2.2.2.2.2.2.2.2.2.2.2.2.2.2.1 hj (by decide)
theorem oModel.s42 (h : oModel s R a) : s[a + 42]? = some (.inr (0, 31)) := h.2.2.2.2.2.2.2.2.2.2.2.2.2.2.2.2.2.2.2.2.2.2.2.2.2.2.2.2.2.2.2.2.2.2.2.2.2.2.2.2.2.2.2.2.2.2.2.2.2.2.2.2.2.2.2.2.2.2.2.2.2.2.2.2.2.2.2.2.2.2.2.2.2.2.2.2.2.2.2.2.2.2.2.2.1
theorem oModel.le (h : oModel s R a) : a + 43 ≤ 1000 := h.2.2.2.2.2.2.2.2.2.2.2.2.2.2.2.2.2.2.2.2.2.2.2.2.2.2.2.2.2.2.2.2.2.2.2.2.2.2.2.2.2.2.2.2.2.2.2.2.2.2.2.2.2.2.2.2.2.2.2.2.2.2.2.2.2.2.2.2.2.2.2.2.2.2.2.2.2.2.2.2.2.2.2.2.2
end
-- M: 0 thrown I, 1 taped I, 2 tape [I, 3 size I, 4 place I, 5 begin I, 6 token I, 7 word J, 8 told I, 9 wrong I, 10 marches [I, 11 roomName [J, 12 holds [I, 13 doorsOf [I, 14 personName [J, 15 kind [I, 16 age [I, 17 inTold [I, 18 lineFrom [I, 19 lineTo [I, 20 codes [I, 21 code I, 22 opened [I, 23 compared [Z, 24 kept [I, 25 keptBy [I, 26 ahead [I, 27 against [I, 28 sum [I, 29 sumBy [I, 30 term [I, 31 termBy [I, 32 byNot [I, 33 valueOf [I, 34 given I, 35 fresh J, 36 lines [I, 37 lineWhat [I, 38 lineA [I, 39 lineB [I, 40 seens [I, 41 seenBy [I, 42 seenLong [I, 43 seenSo [Z, 44 s [I, 45 aside [I, 46 before [I, 47 marked [I, 48 undone [I, 49 isLaid [Z, 50 done I, 51 row [I, 52 bestRow [I, 53 bestMuch I, 54 stays [I, 55 alikes [I, 56 g J

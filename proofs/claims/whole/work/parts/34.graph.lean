/-! SPREADING: both ways come to the same set -/
def sb (x y : Int32) : Prop := ∀ i, i < 32 → bt x i = true → bt y i = true
theorem sb_rf (x : Int32) : sb x x := fun _ _ h => h
theorem sb_tr {x y z : Int32} (h1 : sb x y) (h2 : sb y z) : sb x z := fun i hi h => h2 i hi (h1 i hi h)
theorem sb_eq {x y : Int32} (h1 : sb x y) (h2 : sb y x) : x = y := b_ext fun i hi => by
  cases hx : bt x i with
  | true => exact (h1 i hi hx).symm
  | false => cases hy : bt y i with
    | true => have := h2 i hi hy; rw [hx] at this; cases this
    | false => rfl
theorem sb_orl (x y : Int32) : sb x (x ||| y) := fun i _ h => by rw [b_or, h]; rfl
theorem sb_orr (x y : Int32) : sb y (x ||| y) := fun i _ h => by rw [b_or, h, Bool.or_true]
theorem sb_or {x y z : Int32} (h1 : sb x z) (h2 : sb y z) : sb (x ||| y) z := fun i hi h => by
  rw [b_or, Bool.or_eq_true] at h
  rcases h with h | h
  · exact h1 i hi h
  · exact h2 i hi h
def cN (x : Int32) : Nat → Nat
  | 0 => 0
  | n + 1 => cN x n + (bif bt x n then 1 else 0)
theorem cN_le (x : Int32) : ∀ n, cN x n ≤ n
  | 0 => Nat.le_refl 0
  | n + 1 => by have := cN_le x n; unfold cN; cases bt x n <;> simp <;> omega
theorem cN_sb {x y : Int32} (h : sb x y) : ∀ n, n ≤ 32 → cN x n ≤ cN y n
  | 0, _ => Nat.le_refl 0
  | n + 1, hn => by
    have h1 := cN_sb h n (by omega)
    unfold cN
    cases hx : bt x n with
    | true => rw [h n (by omega) hx]; simp; exact h1
    | false => cases bt y n <;> simp <;> omega
theorem cN_eq {x y : Int32} (h : sb x y) : ∀ n, n ≤ 32 → cN y n ≤ cN x n → ∀ i, i < n → bt y i = true → bt x i = true
  | 0, _, _, _, hi, _ => absurd hi (Nat.not_lt_zero _)
  | n + 1, hn, hc, i, hi, hy => by
    have h1 := cN_sb h n (by omega)
    unfold cN at hc
    cases hx : bt x n with
    | true =>
      rw [hx, h n (by omega) hx] at hc
      simp at hc
      by_cases hin : i = n
      · rw [hin]; exact hx
      · exact cN_eq h n (by omega) hc i (by omega) hy
    | false =>
      rw [hx] at hc
      cases hyn : bt y n with
      | true => rw [hyn] at hc; simp at hc; omega
      | false =>
        rw [hyn] at hc
        simp at hc
        by_cases hin : i = n
        · rw [hin, hyn] at hy; cases hy
        · exact cN_eq h n (by omega) hc i (by omega) hy
theorem itr_succ {σ : Type} {step : σ → σ} (n : Nat) (x : σ) : itr (fun _ => step) (n + 1) x = step (itr (fun _ => step) n x) := rfl
/-- eight steps of a growing step on sets under 8 come to rest -/
theorem fix8 {T : Int32 → Int32} (hg : ∀ x, sb x (T x)) (hs : ∀ x, sm8 x → sm8 (T x)) {x : Int32} (hx : sm8 x) : T (itr (fun _ => T) 8 x) = itr (fun _ => T) 8 x := by
  have key : ∀ n, sm8 (itr (fun _ => T) n x) ∧ (T (itr (fun _ => T) n x) = itr (fun _ => T) n x ∨ n ≤ cN (itr (fun _ => T) n x) 8) := by
    intro n
    induction n with
    | zero => exact ⟨hx, Or.inr (Nat.zero_le _)⟩
    | succ n ih =>
      rw [itr_succ]
      generalize itr (fun _ => T) n x = y at ih ⊢
      refine ⟨hs y ih.1, ?_⟩
      rcases ih.2 with h | h
      · left; rw [h, h]
      · by_cases hc : cN (T y) 8 ≤ cN y 8
        · left
          have e : T y = y := by
            refine sb_eq (fun i hi hb => ?_) (hg y)
            by_cases h8 : i < 8
            · exact cN_eq (hg y) 8 (by decide) hc i h8 hb
            · rw [hs y ih.1 i (by omega) hi] at hb; cases hb
          rw [e, e]
        · right; omega
  obtain ⟨h1, h2⟩ := key 8
  generalize itr (fun _ => T) 8 x = y at h1 h2 ⊢
  rcases h2 with h | h
  · exact h
  · have hc : cN (T y) 8 ≤ cN y 8 := Nat.le_trans (cN_le _ 8) h
    refine sb_eq (fun i hi hb => ?_) (hg y)
    by_cases h8 : i < 8
    · exact cN_eq (hg y) 8 (by decide) hc i h8 hb
    · rw [hs y h1 i (by omega) hi] at hb; cases hb
/-- closed under doors -/
def clo (D : Nat → Int32) (N : Nat) (al z : Int32) : Prop := ∀ k, k < N → bt z k = true → sb (D k &&& al) z
theorem itr_sb {step : Nat → Int32 → Int32} {z : Int32} : ∀ (n : Nat) {x : Int32}, sb x z → (∀ j y, j < n → sb y z → sb (step j y) z) → sb (itr step n x) z
  | 0, _, h, _ => h
  | n + 1, _, h, hs => hs n _ (by omega) (itr_sb n h (fun j y hj => hs j y (by omega)))
theorem itr_gr {step : Nat → Int32 → Int32} (hs : ∀ j y, sb y (step j y)) : ∀ (n : Nat) (x : Int32), sb x (itr step n x)
  | 0, x => sb_rf x
  | n + 1, x => sb_tr (itr_gr hs n x) (hs n _)
theorem itr_gr2 {step : Nat → Int32 → Int32} (hs : ∀ j y, sb y (step j y)) {x : Int32} {k : Nat} : ∀ n, k ≤ n → sb (itr step k x) (itr step n x)
  | 0, h => by rw [show k = 0 by omega]; exact sb_rf _
  | n + 1, h => by
    by_cases hk : k = n + 1
    · rw [hk]; exact sb_rf _
    · exact sb_tr (itr_gr2 hs n (by omega)) (hs n _)
section URG2
variable {D : Nat → Int32} {N : Nat} {al x z : Int32}
theorem bes_in {j : Nat} : ∀ n, j < n → bt x j = true → sb (D j) (bes D n x)
  | 0, h, _ => absurd h (Nat.not_lt_zero _)
  | n + 1, h, hj => by
    show sb (D j) (bif bt x n then bes D n x ||| D n else bes D n x)
    by_cases hn : j = n
    · rw [← hn, hj]; exact sb_orr _ _
    · have h1 := bes_in n (by omega) hj
      cases bt x n with
      | true => exact sb_tr h1 (sb_orl _ _)
      | false => exact h1
theorem bes_of : ∀ n i, bt (bes D n x) i = true → ∃ j, j < n ∧ bt x j = true ∧ bt (D j) i = true
  | 0, i, h => by
    have : bt (0 : Int32) i = true := h
    rw [b_0] at this; cases this
  | n + 1, i, h => by
    have h : bt (bif bt x n then bes D n x ||| D n else bes D n x) i = true := h
    cases hn : bt x n with
    | true =>
      rw [hn] at h
      simp only [cond_true, b_or, Bool.or_eq_true] at h
      rcases h with h | h
      · obtain ⟨j, a, b, c⟩ := bes_of n i h
        exact ⟨j, by omega, b, c⟩
      · exact ⟨n, by omega, hn, h⟩
    | false =>
      rw [hn] at h
      obtain ⟨j, a, b, c⟩ := bes_of n i h
      exact ⟨j, by omega, b, c⟩
theorem stX_clo (hx : sb x z) (hz : clo D N al z) (hN : N ≤ 32) : sb (x ||| (bes D N x &&& al)) z := sb_or hx fun i hi h => by
  rw [b_and, Bool.and_eq_true] at h
  obtain ⟨j, a, b, c⟩ := bes_of N i h.1
  exact hz j a (hx j (by omega) b) i hi (by rw [b_and, c, h.2]; rfl)
theorem stX_fix (h : x ||| (bes D N x &&& al) = x) : clo D N al x := fun k hk hb i hi hd => by
  rw [b_and, Bool.and_eq_true] at hd
  rw [← h, b_or, b_and, bes_in N hk hb i hi hd.1, hd.2]
  simp
theorem inM_clo (hx : sb x z) (hz : clo D N al z) (hN : N ≤ 32) : sb (inM D N al x) z := itr_sb N hx fun k y hk hy => by
  cases hq : bt y k with
  | true => exact sb_or hy (hz k hk (hy k (by omega) hq))
  | false => exact hy
theorem inM_st (k : Nat) (y : Int32) : sb y (bif bt y k then y ||| (D k &&& al) else y) := by
  cases bt y k with
  | true => exact sb_orl _ _
  | false => exact sb_rf _
theorem inM_fix (hN : N ≤ 32) (h : inM D N al x = x) : clo D N al x := fun k hk hb => by
  have h1 : sb x (itr (fun k (y : Int32) => bif bt y k then y ||| (D k &&& al) else y) k x) := itr_gr inM_st k x
  have h2 : sb (itr (fun k (y : Int32) => bif bt y k then y ||| (D k &&& al) else y) (k + 1) x) (inM D N al x) := itr_gr2 inM_st N hk
  rw [h] at h2
  refine sb_tr ?_ h2
  show sb _ (bif bt (itr _ k x) k then _ ||| (D k &&& al) else _)
  rw [h1 k (by omega) hb]
  exact sb_orr _ _
theorem sp_le {T : Int32 → Int32} (hz : ∀ y, sb y z → sb (T y) z) (hx : sb x z) : sb (itr (fun _ => T) 8 x) z := itr_sb 8 hx fun _ y _ hy => hz y hy
/-- the two ways of spreading -/
theorem sp_eq (hN : N ≤ 8) (ha : sm8 al) (st : Int32) : spX D N st al = spM D N st al := by
  have hx : sm8 (st &&& al) := sm8_and2 ha
  have f1 : (fun x => x ||| (bes D N x &&& al)) (spX D N st al) = spX D N st al := fix8 (T := fun x => x ||| (bes D N x &&& al)) (fun x => sb_orl _ _) (fun x h => sm8_or h (sm8_and2 ha)) hx
  have f2 : inM D N al (spM D N st al) = spM D N st al := fix8 (T := inM D N al) (fun x => itr_gr inM_st N x) (fun x h => by
    have key : ∀ n, sm8 (itr (fun k (y : Int32) => bif bt y k then y ||| (D k &&& al) else y) n x) := by
      intro n
      induction n with
      | zero => exact h
      | succ n ih =>
        show sm8 (bif bt (itr _ n x) n then itr _ n x ||| (D n &&& al) else itr _ n x)
        cases bt (itr (fun k (y : Int32) => bif bt y k then y ||| (D k &&& al) else y) n x) n with
        | true => exact sm8_or ih (sm8_and2 ha)
        | false => exact ih
    exact key N) hx
  have c1 := stX_fix f1
  have c2 := inM_fix (by omega) f2
  have g1 : sb (st &&& al) (spX D N st al) := itr_gr (fun _ y => sb_orl _ _) 8 _
  have g2 : sb (st &&& al) (spM D N st al) := itr_gr (fun _ y => itr_gr inM_st N y) 8 _
  exact sb_eq (sp_le (T := fun x => x ||| (bes D N x &&& al)) (fun y hy => stX_clo hy c2 (by omega)) g2) (sp_le (T := inM D N al) (fun y hy => inM_clo hy c1 (by omega)) g1)
end URG2

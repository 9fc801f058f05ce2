/-! LINES, pure: what comes of them -/
section URLP
variable {q : Nat × (Nat → Nat)} {rn pn : Nat → List Nat} {N P k p r i j n F : Nat} {x : Nat × uL3}
theorem pEnd_ok (hj : j ≤ q.1) : (∀ x, pEnd q k p r j = .inr x → j < x.1 ∧ x.1 ≤ q.1 ∧ x.2 = (k, p, r)) ∧ (∀ F, pEnd q k p r j = .inl F → okF q F) := by
  unfold pEnd
  by_cases h : kdT q j = 59
  · rw [if_pos h]
    exact ⟨fun x y => (by cases y; exact ⟨(tk_next hj).2.1 (by omega), (tk_next hj).1, rfl⟩), fun F y => (by cases y)⟩
  · rw [if_neg h]
    exact ⟨fun x y => (by cases y), fun F y => (by cases y; exact okF_k (by decide) (by decide) hj)⟩
theorem fs_in {ws : List Nat} (hN : N ≤ 8) (h : fsP (fun r => decide (rn r = ws)) N 0 ≠ -1) : ∃ k, k < N ∧ fsP (fun r => decide (rn r = ws)) N 0 = nI k ∧ ix (fsP (fun r => decide (rn r = ws)) N 0) = k := by
  rcases fsP_is (Q := fun r => decide (rn r = ws)) N 0 (by omega) with e | ⟨k, h1, h2, h3, h4⟩
  · exact absurd e h
  · exact ⟨k, by omega, h3, by rw [h3, ix_nI (by omega)]⟩
theorem pL2_ok (hN : N ≤ 8) (hj : j ≤ q.1) (hk : k < 5) (hp : k < 3 → p < P) : (∀ x, pL2 q rn N k p j = .inr x → j < x.1 ∧ x.1 ≤ q.1 ∧ okL N P x.2) ∧ (∀ F, pL2 q rn N k p j = .inl F → okF q F) := by
  unfold pL2
  by_cases h : k = 2 ∨ k = 4
  · rw [if_pos h]
    obtain ⟨a, b⟩ := pEnd_ok (q := q) (k := k) (p := p) (r := 0) hj
    refine ⟨fun x y => ?_, b⟩
    obtain ⟨c1, c2, c3⟩ := a x y
    rw [c3]
    exact ⟨c1, c2, hk, hp, fun y => absurd y (by show ¬ (k = 0 ∨ k = 1 ∨ k = 3); omega)⟩
  · rw [if_neg h]
    by_cases h2 : pNm q rn N j = 0
    · rw [if_neg (fun y => y h2)]
      obtain ⟨m, m1, m2, m3⟩ := fs_in hN (pNm_0 h2).2
      rw [m3]
      have up := (tk_next hj).2.2
      obtain ⟨a, b⟩ := pEnd_ok (q := q) (k := k) (p := p) (r := m) (tk_next hj).1
      refine ⟨fun x y => ?_, b⟩
      obtain ⟨c1, c2, c3⟩ := a x y
      rw [c3]
      exact ⟨by omega, c2, hk, hp, fun _ => m1⟩
    · rw [if_pos h2]
      exact ⟨fun x y => (by cases y), fun F y => (by cases y; exact pNm_F hj h2)⟩
theorem pL1_ok (hN : N ≤ 8) (hP : P ≤ 5) (hi : i ≤ q.1) : (∀ x, pL1 q rn N pn P n i = .inr x → i < x.1 ∧ x.1 ≤ q.1 ∧ okL N P x.2 ∧ n < 40) ∧ (∀ F, pL1 q rn N pn P n i = .inl F → okF q F) := by
  have l1 := (tk_next hi).1
  have u1 := (tk_next hi).2.2
  have l2 := (tk_next l1).1
  have u2 := (tk_next l1).2.2
  unfold pL1
  by_cases h1 : kdT q i < 108 ∨ 112 < kdT q i
  · rw [if_pos h1]
    exact ⟨fun x y => (by cases y), fun F y => (by cases y; exact okF_k (by decide) (by decide) hi)⟩
  · rw [if_neg h1]
    by_cases h2 : 40 ≤ n
    · rw [if_pos h2]
      exact ⟨fun x y => (by cases y), fun F y => (by cases y; exact okF_k (by decide) (by decide) hi)⟩
    · rw [if_neg h2]
      by_cases h3 : 111 ≤ kdT q i
      · rw [if_pos h3]
        obtain ⟨a, b⟩ := pL2_ok (q := q) (rn := rn) (N := N) (P := P) (k := kdT q i - 108) (p := 0) hN l1 (by omega) (fun y => absurd y (by omega))
        refine ⟨fun x y => ?_, b⟩
        obtain ⟨c1, c2, c3⟩ := a x y
        exact ⟨by omega, c2, c3, by omega⟩
      · rw [if_neg h3]
        by_cases h4 : pNm q pn P (enT q i) = 0
        · rw [if_neg (fun y => y h4)]
          obtain ⟨m, m1, m2, m3⟩ := fs_in (N := P) (by omega) (pNm_0 h4).2
          rw [m3]
          obtain ⟨a, b⟩ := pL2_ok (q := q) (rn := rn) (N := N) (P := P) (k := kdT q i - 108) (p := m) hN l2 (by omega) (fun _ => m1)
          refine ⟨fun x y => ?_, b⟩
          obtain ⟨c1, c2, c3⟩ := a x y
          exact ⟨by omega, c2, c3, by omega⟩
        · rw [if_pos h4]
          exact ⟨fun x y => (by cases y), fun F y => (by cases y; exact pNm_F l1 h4)⟩
end URLP

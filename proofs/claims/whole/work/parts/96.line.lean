/-! A LINE OF AN EVENING, pure; what either side holds of it -/
abbrev uL3 : Type := Nat × Nat × Nat
def pNm (q : Nat × (Nat → Nat)) (rn : Nat → List Nat) (N i : Nat) : Nat := if kdT q i ≠ 3 then 1 + 16 * bgT q i else if fsP (fun r => decide (rn r = wlT q i)) N 0 = -1 then 2 + 16 * bgT q i else 0
def pEnd (q : Nat × (Nat → Nat)) (k p r j : Nat) : Nat ⊕ (Nat × uL3) := if kdT q j = 59 then .inr (enT q j, (k, p, r)) else .inl (1 + 16 * bgT q j)
def pL2 (q : Nat × (Nat → Nat)) (rn : Nat → List Nat) (N k p j : Nat) : Nat ⊕ (Nat × uL3) :=
  if k = 2 ∨ k = 4 then pEnd q k p 0 j
  else if pNm q rn N j ≠ 0 then .inl (pNm q rn N j)
  else pEnd q k p (ix (fsP (fun r => decide (rn r = wlT q j)) N 0)) (enT q j)
/-- n lines stand already -/
def pL1 (q : Nat × (Nat → Nat)) (rn : Nat → List Nat) (N : Nat) (pn : Nat → List Nat) (P n i : Nat) : Nat ⊕ (Nat × uL3) :=
  if kdT q i < 108 ∨ 112 < kdT q i then .inl (1 + 16 * bgT q i)
  else if 40 ≤ n then .inl (5 + 16 * bgT q i)
  else if 111 ≤ kdT q i then pL2 q rn N (kdT q i - 108) 0 (enT q i)
  else if pNm q pn P (enT q i) ≠ 0 then .inl (pNm q pn P (enT q i))
  else pL2 q rn N (kdT q i - 108) (ix (fsP (fun p => decide (pn p = wlT q (enT q i))) P 0)) (enT q (enT q i))
def evB (o : Nat ⊕ (Nat × uL3)) (k : Nat × uL3 → Nat ⊕ List uL3) : Nat ⊕ List uL3 := match o with
  | .inl F => .inl F
  | .inr x => k x
def pEv (q : Nat × (Nat → Nat)) (rn : Nat → List Nat) (N : Nat) (pn : Nat → List Nat) (P : Nat) : Nat → Nat → List uL3 → Nat ⊕ List uL3
  | 0, _, _ => .inl 0
  | n + 1, i, ls => if kdT q i = 1 then .inr ls else evB (pL1 q rn N pn P ls.length i) (fun x => pEv q rn N pn P n x.1 (ls ++ [x.2]))
/-- a line is of this land -/
def okL (N P : Nat) (x : uL3) : Prop := x.1 < 5 ∧ (x.1 < 3 → x.2.1 < P) ∧ ((x.1 = 0 ∨ x.1 = 1 ∨ x.1 = 3) → x.2.2 < N)
def xSc (f : Nat → Nat → Int32) (K : Nat) (ls : List uL3) : Prop := f K 3 = nI ls.length ∧ ∀ i, i < ls.length → f (K + 1) i = nI (108 + (ls.getD i (0, 0, 0)).1) ∧ ((ls.getD i (0, 0, 0)).1 < 3 → f (K + 2) i = nI (ls.getD i (0, 0, 0)).2.1) ∧ (((ls.getD i (0, 0, 0)).1 = 0 ∨ (ls.getD i (0, 0, 0)).1 = 1 ∨ (ls.getD i (0, 0, 0)).1 = 3) → f (K + 3) i = nI (ls.getD i (0, 0, 0)).2.2)
def mSc (f : Nat → Nat → Int32) (o : Nat) (ls : List uL3) : Prop := f 233 o = nI ls.length ∧ ∀ i, i < ls.length → f 234 (40 * o + i) = nI (ls.getD i (0, 0, 0)).1 ∧ ((ls.getD i (0, 0, 0)).1 < 3 → f 235 (40 * o + i) = nI (ls.getD i (0, 0, 0)).2.1) ∧ (((ls.getD i (0, 0, 0)).1 = 0 ∨ (ls.getD i (0, 0, 0)).1 = 1 ∨ (ls.getD i (0, 0, 0)).1 = 3) → f 236 (40 * o + i) = nI (ls.getD i (0, 0, 0)).2.2)
section URLI
variable {f : Nat → Nat → Int32} {K N P i o : Nat} {ls : List uL3} {q : Nat × (Nat → Nat)} {rn pn : Nat → List Nat}
/-- both hold the same lines: what is kept between calls -/
theorem sc_both (hx : xSc f K ls) (hm : mSc f 0 ls) (hn : ls.length ≤ 40) (ho : ∀ i, i < ls.length → okL N P (ls.getD i (0, 0, 0))) : scR f K 0 N P := by
  refine ⟨ls.length, hn, hx.1, hm.1, fun i hi => ?_⟩
  obtain ⟨a1, a2, a3⟩ := hx.2 i hi
  obtain ⟨b1, b2, b3⟩ := hm.2 i hi
  obtain ⟨c1, c2, c3⟩ := ho i hi
  exact ⟨(ls.getD i (0, 0, 0)).1, (ls.getD i (0, 0, 0)).2.1, (ls.getD i (0, 0, 0)).2.2, a1, b1, ⟨fun h => ⟨c2 h, a2 h⟩, fun h => ⟨c3 h, a3 h⟩, c1⟩, ⟨fun h => ⟨c2 h, b2 h⟩, fun h => ⟨c3 h, b3 h⟩, c1⟩⟩
theorem pNm_0 (h : pNm q rn N i = 0) : kdT q i = 3 ∧ fsP (fun r => decide (rn r = wlT q i)) N 0 ≠ -1 := by
  unfold pNm at h
  by_cases k : kdT q i = 3
  · rw [if_neg (fun y => y k)] at h
    by_cases e : fsP (fun r => decide (rn r = wlT q i)) N 0 = -1
    · rw [if_pos e] at h; omega
    · exact ⟨k, e⟩
  · rw [if_pos k] at h; omega
theorem pNm_F (hi : i ≤ q.1) (h : pNm q rn N i ≠ 0) : okF q (pNm q rn N i) := by
  have b := (bgT_le hi).2
  unfold pNm at h ⊢
  unfold okF
  by_cases h1 : kdT q i ≠ 3
  · rw [if_pos h1]; omega
  · rw [if_neg h1] at h ⊢
    by_cases h2 : fsP (fun r => decide (rn r = wlT q i)) N 0 = -1
    · rw [if_pos h2]; omega
    · rw [if_neg h2] at h; exact absurd rfl h
end URLI

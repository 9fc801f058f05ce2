/-! THE LAW TOLD, and the whole text: pure; either side tells the law -/
abbrev uTl : Type := Option (List Int32 × List Int32)
abbrev uSZ : Type := Nat ⊕ (Nat × uPL × uTl)
def tlR (t : uTl) : List Int32 := match t with
  | none => []
  | some x => x.1
def tlC (t : uTl) : List Int32 := match t with
  | none => []
  | some x => x.2
def tlW (t : uTl) : Prop := match t with
  | none => True
  | some x => 0 < x.2.length ∧ x.1.length ≤ 1000 ∧ x.2.length ≤ 1000 ∧ ∃ v : uVF, (∀ st : Nat → Int32, (∀ k, k < x.1.length → st k = x.1.getD k 0) → ∀ u t y m K, vlX st x.1.length u t y m K = v u t y m) ∧ (∀ (cs : Nat → Int32) (k : Nat), (∀ j, j < x.2.length → cs (k + j) = x.2.getD j 0) → ∀ A W, wkM cs A k x.2.length W = some (vAt v A))
def stE (z : uPL) (o : uPR) : uSZ := match o with
  | .inl F => .inl F
  | .inr x => .inr (x.1, z, some (x.2.1, x.2.2.1))
def pStay (q : Nat × (Nat → Nat)) (z : uPL) (t : uTl) (i : Nat) : uSZ := match t with
  | some _ => .inl (3 + 16 * bgT q i)
  | none => stE z (pE q (10 * q.1 + 5) 0 0 (enT q i) [] [] false)
def lfT (t : uTl) (o : uSR) : uSZ := match o with
  | .inl F => .inl F
  | .inr x => .inr (x.1, x.2, t)
def pSt (q : Nat × (Nat → Nat)) (z : uPL) (t : uTl) (i : Nat) : uSZ :=
  if kdT q i = 100 then lfT t (pRoom q z false i)
  else if kdT q i = 101 then lfT t (pRoom q z true i)
  else if kdT q i = 103 then lfT t (pDoor q z i)
  else if kdT q i = 104 then lfT t (pPers q z i)
  else if kdT q i = 107 then pStay q z t i
  else .inl (1 + 16 * bgT q i)
def pCz (q : Nat × (Nat → Nat)) (o : uSZ) : uSZ := match o with
  | .inl F => .inl F
  | .inr x => if kdT q x.1 = 59 then .inr (enT q x.1, x.2) else .inl (1 + 16 * bgT q x.1)
abbrev uAZ : Type := Nat ⊕ (uPL × uTl)
def uAb (o : uSZ) (k : Nat × uPL × uTl → uAZ) : uAZ := match o with
  | .inl F => .inl F
  | .inr x => k x
def pAll (q : Nat × (Nat → Nat)) : Nat → Nat → uPL → uTl → uAZ
  | 0, _, _, _ => .inl 0
  | n + 1, i, z, t => if kdT q i = 1 then .inr (z, t) else uAb (pCz q (pSt q z t i)) (fun x => pAll q n x.1 x.2.1 x.2.2)
section URSP
variable {q : Nat × (Nat → Nat)} {z z' : uPL} {t t' : uTl} {i j : Nat}
theorem pNew_3 (h : pNew q z i = 0) : kdT q i = 3 := by
  unfold pNew at h
  by_cases k : kdT q i = 3
  · exact k
  · rw [if_pos k] at h; omega
theorem pRnm_3 (h : pRnm q z i = 0) : knR z (wlT q i) ≠ -1 := by
  unfold pRnm at h
  by_cases k : kdT q i = 3
  · rw [if_neg (fun y => y k)] at h
    by_cases e : knR z (wlT q i) = -1
    · rw [if_pos e] at h; omega
    · exact e
  · rw [if_pos k] at h; omega
theorem pNum_3 {lo hi : Nat} (h : pNum q lo hi i = 0) : lo ≤ nmT q i ∧ nmT q i ≤ hi := by
  unfold pNum at h
  by_cases k : kdT q i = 2
  · rw [if_neg (fun y => y k)] at h
    by_cases e : lo ≤ nmT q i ∧ nmT q i ≤ hi
    · exact e
    · rw [if_neg e] at h; omega
  · rw [if_pos k] at h; omega
theorem knR_in (hz : zW z) {ws : List Nat} (h : knR z ws ≠ -1) : ix (knR z ws) < zN z := by
  rcases knR_is (z := z) (ws := ws) hz.1.1 with e | ⟨k, h1, h2, h3⟩
  · exact absurd e h
  · rw [h3]; exact h1
theorem en_le (h : i ≤ q.1) : enT q i ≤ q.1 := (tk_next h).1
theorem en_up (h : i ≤ q.1) : i ≤ enT q i := (tk_next h).2.2
theorem pRoom_ok {sil : Bool} (hi : i ≤ q.1) (hz : zW z) (h : pRoom q z sil i = .inr (j, z')) : i ≤ j ∧ j ≤ q.1 ∧ zW z' := by
  have l1 := en_le hi
  have l2 := en_le l1
  have l3 := en_le l2
  have l4 := en_le l3
  have u1 := en_up hi
  have u2 := en_up l1
  have u3 := en_up l2
  have u4 := en_up l3
  unfold pRoom at h
  by_cases h1 : 8 ≤ zN z
  · rw [if_pos h1] at h; cases h
  · rw [if_neg h1] at h
    by_cases h2 : pNew q z (enT q i) = 0
    · rw [if_neg (fun y => y h2)] at h
      have ok := (tk_w l1 (Or.inl (pNew_3 h2))).1
      by_cases h3 : sil = false
      · rw [if_pos h3] at h
        cases h
        exact ⟨by omega, l2, zW_R hz ok (by decide) (by omega)⟩
      · rw [if_neg h3] at h
        by_cases h4 : kdT q (enT q (enT q i)) = 102
        · rw [if_neg (fun y => y h4)] at h
          by_cases h5 : pNum q 1 20 (enT q (enT q (enT q i))) = 0
          · rw [if_neg (fun y => y h5)] at h
            cases h
            exact ⟨by omega, l4, zW_R hz ok (pNum_3 h5).2 (by omega)⟩
          · rw [if_pos h5] at h; cases h
        · rw [if_pos h4] at h; cases h
    · rw [if_pos h2] at h; cases h
theorem pDoor_ok (hi : i ≤ q.1) (hz : zW z) (h : pDoor q z i = .inr (j, z')) : i ≤ j ∧ j ≤ q.1 ∧ zW z' := by
  have l1 := en_le hi
  have l2 := en_le l1
  have l3 := en_le l2
  have u1 := en_up hi
  have u2 := en_up l1
  have u3 := en_up l2
  unfold pDoor at h
  by_cases h1 : 10 ≤ zD z
  · rw [if_pos h1] at h; cases h
  · rw [if_neg h1] at h
    by_cases h2 : pRnm q z (enT q i) = 0
    · rw [if_neg (fun y => y h2)] at h
      by_cases h3 : pRnm q z (enT q (enT q i)) = 0
      · rw [if_neg (fun y => y h3)] at h
        by_cases h4 : pJoin z (ix (knR z (wlT q (enT q i)))) (ix (knR z (wlT q (enT q (enT q i))))) = true
        · rw [if_pos h4] at h
          cases h
          exact ⟨by omega, l3, zW_D hz (knR_in hz (pRnm_3 h2)) (knR_in hz (pRnm_3 h3)) (by omega) h4⟩
        · rw [if_neg h4] at h; cases h
      · rw [if_pos h3] at h; cases h
    · rw [if_pos h2] at h; cases h
theorem pPers_ok (hi : i ≤ q.1) (hz : zW z) (h : pPers q z i = .inr (j, z')) : i ≤ j ∧ j ≤ q.1 ∧ zW z' := by
  have l1 := en_le hi
  have l2 := en_le l1
  have l3 := en_le l2
  have l4 := en_le l3
  have l5 := en_le l4
  have l6 := en_le l5
  have l7 := en_le l6
  have u1 := en_up hi
  have u2 := en_up l1
  have u3 := en_up l2
  have u4 := en_up l3
  have u5 := en_up l4
  have u6 := en_up l5
  have u7 := en_up l6
  unfold pPers at h
  by_cases h1 : 5 ≤ zP z
  · rw [if_pos h1] at h; cases h
  · rw [if_neg h1] at h
    by_cases h2 : pNew q z (enT q i) = 0
    · rw [if_neg (fun y => y h2)] at h
      have ok := (tk_w l1 (Or.inl (pNew_3 h2))).1
      by_cases h3 : kdT q (enT q (enT q i)) < 113 ∨ 116 < kdT q (enT q (enT q i))
      · rw [if_pos h3] at h; cases h
      · rw [if_neg h3] at h
        by_cases h4 : kdT q (enT q (enT q (enT q i))) = 105
        · rw [if_neg (fun y => y h4)] at h
          by_cases h5 : pNum q 0 99 (enT q (enT q (enT q (enT q i)))) = 0
          · rw [if_neg (fun y => y h5)] at h
            by_cases h6 : kdT q (enT q (enT q (enT q (enT q (enT q i))))) = 106
            · rw [if_neg (fun y => y h6)] at h
              by_cases h7 : pRnm q z (enT q (enT q (enT q (enT q (enT q (enT q i)))))) = 0
              · rw [if_neg (fun y => y h7)] at h
                by_cases h8 : 0 < zHo z (ix (knR z (wlT q (enT q (enT q (enT q (enT q (enT q (enT q i)))))))))
                · rw [if_pos h8] at h; cases h
                · rw [if_neg h8] at h
                  cases h
                  exact ⟨by omega, l7, zW_P hz ok (by omega) (pNum_3 h5).2 (knR_in hz (pRnm_3 h7)) (by omega) (by omega)⟩
              · rw [if_pos h7] at h; cases h
            · rw [if_pos h6] at h; cases h
          · rw [if_pos h5] at h; cases h
        · rw [if_pos h4] at h; cases h
    · rw [if_pos h2] at h; cases h
theorem lf_ok {o : uSR} {x : Nat × uPL × uTl} (h : lfT t o = .inr x) : o = .inr (x.1, x.2.1) ∧ x.2.2 = t := by
  cases o with
  | inl F => cases h
  | inr y => cases h; exact ⟨rfl, rfl⟩
theorem pSt_ok {x : Nat × uPL × uTl} (hch : ∀ k, k < q.1 → q.2 k < 128) (hq : q.1 ≤ 1000) (hi : i ≤ q.1) (hz : zW z) (ht : tlW t) (h : pSt q z t i = .inr x) : i ≤ x.1 ∧ x.1 ≤ q.1 ∧ zW x.2.1 ∧ tlW x.2.2 := by
  unfold pSt at h
  by_cases h1 : kdT q i = 100
  · rw [if_pos h1] at h
    obtain ⟨a, b⟩ := lf_ok h
    obtain ⟨c1, c2, c3⟩ := pRoom_ok hi hz a
    exact ⟨c1, c2, c3, by rw [b]; exact ht⟩
  · rw [if_neg h1] at h
    by_cases h2 : kdT q i = 101
    · rw [if_pos h2] at h
      obtain ⟨a, b⟩ := lf_ok h
      obtain ⟨c1, c2, c3⟩ := pRoom_ok hi hz a
      exact ⟨c1, c2, c3, by rw [b]; exact ht⟩
    · rw [if_neg h2] at h
      by_cases h3 : kdT q i = 103
      · rw [if_pos h3] at h
        obtain ⟨a, b⟩ := lf_ok h
        obtain ⟨c1, c2, c3⟩ := pDoor_ok hi hz a
        exact ⟨c1, c2, c3, by rw [b]; exact ht⟩
      · rw [if_neg h3] at h
        by_cases h4 : kdT q i = 104
        · rw [if_pos h4] at h
          obtain ⟨a, b⟩ := lf_ok h
          obtain ⟨c1, c2, c3⟩ := pPers_ok hi hz a
          exact ⟨c1, c2, c3, by rw [b]; exact ht⟩
        · rw [if_neg h4] at h
          by_cases h5 : kdT q i = 107
          · rw [if_pos h5] at h
            cases t with
            | some y => cases h
            | none =>
              have h' : stE z (pE q (10 * q.1 + 5) 0 0 (enT q i) [] [] false) = .inr x := h
              cases e : pE q (10 * q.1 + 5) 0 0 (enT q i) [] [] false with
              | inl F => rw [e] at h'; cases h'
              | inr y =>
                rw [e] at h'
                cases h'
                obtain ⟨p1, p2, p3, p4, p5, p6, p7⟩ := pE_pr _ _ _ _ _ _ _ _ (en_le hi) (by decide) e
                have u := en_up hi
                have p4' : y.2.1.length ≤ 0 + (y.1 - enT q i) := p4
                have p5' : y.2.2.1.length ≤ 0 + (y.1 - enT q i) := p5
                have p7' : 0 < y.2.2.1.length := p7 (by decide)
                exact ⟨by omega, p1, hz, p7', (by show y.2.1.length ≤ 1000; omega), (by show y.2.2.1.length ≤ 1000; omega), E_law hch (en_le hi) e⟩
          · rw [if_neg h5] at h; cases h
theorem pCz_ok {o : uSZ} {x : Nat × uPL × uTl} (h : pCz q o = .inr x) : ∃ y, o = .inr y ∧ kdT q y.1 = 59 ∧ x = (enT q y.1, y.2) := by
  cases o with
  | inl F => cases h
  | inr y =>
    have h' : (if kdT q y.1 = 59 then (Sum.inr (enT q y.1, y.2) : uSZ) else .inl (1 + 16 * bgT q y.1)) = .inr x := h
    by_cases k : kdT q y.1 = 59
    · rw [if_pos k] at h'
      cases h'
      exact ⟨y, rfl, k, rfl⟩
    · rw [if_neg k] at h'; cases h'
end URSP

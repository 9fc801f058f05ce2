/-! THE LAND, pure; what a statement tells; the class's words for it -/
abbrev uPL : Type := ((Nat → List Nat) × (Nat → Nat) × (Nat → Int32)) × ((Nat → List Nat) × (Nat → Nat) × (Nat → Nat) × (Nat → Nat)) × (Nat × Nat × Nat)
def zRn (z : uPL) : Nat → List Nat := z.1.1
def zHo (z : uPL) : Nat → Nat := z.1.2.1
def zDr (z : uPL) : Nat → Int32 := z.1.2.2
def zPn (z : uPL) : Nat → List Nat := z.2.1.1
def zKi (z : uPL) : Nat → Nat := z.2.1.2.1
def zAg (z : uPL) : Nat → Nat := z.2.1.2.2.1
def zHm (z : uPL) : Nat → Nat := z.2.1.2.2.2
def zN (z : uPL) : Nat := z.2.2.1
def zD (z : uPL) : Nat := z.2.2.2.1
def zP (z : uPL) : Nat := z.2.2.2.2
def zUn (z : uPL) : Int32 := sB (fun r => decide (0 < zHo z r)) (zN z)
def bit1 (k : Nat) : Int32 := (1 : Int32) <<< (nI k &&& 31)
def addR (z : uPL) (ws : List Nat) (h : Nat) : uPL := ((upA (zRn z) (zN z) ws, upA (zHo z) (zN z) h, zDr z), z.2.1, (zN z + 1, zD z, zP z))
def addD (z : uPL) (a b : Nat) : uPL := ((zRn z, zHo z, upA (upA (zDr z) a (zDr z a ||| bit1 b)) b (zDr z b ||| bit1 a)), z.2.1, (zN z, zD z + 1, zP z))
def addP (z : uPL) (ws : List Nat) (k g h : Nat) : uPL := (z.1, (upA (zPn z) (zP z) ws, upA (zKi z) (zP z) k, upA (zAg z) (zP z) g, upA (zHm z) (zP z) h), (zN z, zD z, zP z + 1))
def z0 : uPL := ((fun _ => [], fun _ => 0, fun _ => 0), (fun _ => [], fun _ => 0, fun _ => 0, fun _ => 0), (0, 0, 0))
def knR (z : uPL) (ws : List Nat) : Int32 := fsP (fun r => decide (zRn z r = ws)) (zN z) 0
def knP (z : uPL) (ws : List Nat) : Int32 := fsP (fun p => decide (zPn z p = ws)) (zP z) 0
abbrev uSR : Type := Nat ⊕ (Nat × uPL)
/-- a new name stands there: 0, or the fault -/
def pNew (q : Nat × (Nat → Nat)) (z : uPL) (i : Nat) : Nat := if kdT q i ≠ 3 then 1 + 16 * bgT q i else if knR z (wlT q i) ≠ -1 then 3 + 16 * bgT q i else if knP z (wlT q i) ≠ -1 then 3 + 16 * bgT q i else 0
/-- a room's name stands there -/
def pRnm (q : Nat × (Nat → Nat)) (z : uPL) (i : Nat) : Nat := if kdT q i ≠ 3 then 1 + 16 * bgT q i else if knR z (wlT q i) = -1 then 2 + 16 * bgT q i else 0
/-- a number so large stands there -/
def pNum (q : Nat × (Nat → Nat)) (lo hi i : Nat) : Nat := if kdT q i ≠ 2 then 1 + 16 * bgT q i else if lo ≤ nmT q i ∧ nmT q i ≤ hi then 0 else 4 + 16 * bgT q i
def pRoom (q : Nat × (Nat → Nat)) (z : uPL) (sil : Bool) (i : Nat) : uSR :=
  if 8 ≤ zN z then .inl (5 + 16 * bgT q i)
  else if pNew q z (enT q i) ≠ 0 then .inl (pNew q z (enT q i))
  else if sil = false then .inr (enT q (enT q i), addR z (wlT q (enT q i)) 0)
  else if kdT q (enT q (enT q i)) ≠ 102 then .inl (1 + 16 * bgT q (enT q (enT q i)))
  else if pNum q 1 20 (enT q (enT q (enT q i))) ≠ 0 then .inl (pNum q 1 20 (enT q (enT q (enT q i))))
  else .inr (enT q (enT q (enT q (enT q i))), addR z (wlT q (enT q i)) (nmT q (enT q (enT q (enT q i)))))
def pJoin (z : uPL) (a b : Nat) : Bool := !decide (a = b) && (!(decide (0 < zHo z a) && decide (0 < zHo z b)) && !bt (zDr z a) b)
def pDoor (q : Nat × (Nat → Nat)) (z : uPL) (i : Nat) : uSR :=
  if 10 ≤ zD z then .inl (5 + 16 * bgT q i)
  else if pRnm q z (enT q i) ≠ 0 then .inl (pRnm q z (enT q i))
  else if pRnm q z (enT q (enT q i)) ≠ 0 then .inl (pRnm q z (enT q (enT q i)))
  else if pJoin z (ix (knR z (wlT q (enT q i)))) (ix (knR z (wlT q (enT q (enT q i))))) = true then .inr (enT q (enT q (enT q i)), addD z (ix (knR z (wlT q (enT q i)))) (ix (knR z (wlT q (enT q (enT q i))))))
  else .inl (3 + 16 * bgT q (enT q (enT q i)))
def pPers (q : Nat × (Nat → Nat)) (z : uPL) (i : Nat) : uSR :=
  if 5 ≤ zP z then .inl (5 + 16 * bgT q i)
  else if pNew q z (enT q i) ≠ 0 then .inl (pNew q z (enT q i))
  else if kdT q (enT q (enT q i)) < 113 ∨ 116 < kdT q (enT q (enT q i)) then .inl (1 + 16 * bgT q (enT q (enT q i)))
  else if kdT q (enT q (enT q (enT q i))) ≠ 105 then .inl (1 + 16 * bgT q (enT q (enT q (enT q i))))
  else if pNum q 0 99 (enT q (enT q (enT q (enT q i)))) ≠ 0 then .inl (pNum q 0 99 (enT q (enT q (enT q (enT q i)))))
  else if kdT q (enT q (enT q (enT q (enT q (enT q i))))) ≠ 106 then .inl (1 + 16 * bgT q (enT q (enT q (enT q (enT q (enT q i))))))
  else if pRnm q z (enT q (enT q (enT q (enT q (enT q (enT q i)))))) ≠ 0 then .inl (pRnm q z (enT q (enT q (enT q (enT q (enT q (enT q i)))))))
  else if 0 < zHo z (ix (knR z (wlT q (enT q (enT q (enT q (enT q (enT q (enT q i))))))))) then .inl (2 + 16 * bgT q (enT q (enT q (enT q (enT q (enT q (enT q i)))))))
  else .inr (enT q (enT q (enT q (enT q (enT q (enT q (enT q i)))))), addP z (wlT q (enT q i)) (kdT q (enT q (enT q i)) - 113) (nmT q (enT q (enT q (enT q (enT q i))))) (ix (knR z (wlT q (enT q (enT q (enT q (enT q (enT q (enT q i))))))))))
/-- well told -/
def zW (z : uPL) : Prop := (zN z ≤ 8 ∧ zP z ≤ 5 ∧ zD z ≤ 10) ∧ (∀ r, r < zN z → okW (zRn z r) ∧ zHo z r ≤ 20) ∧ (∀ p, p < zP z → okW (zPn z p) ∧ zKi z p ≤ 3 ∧ zAg z p ≤ 99 ∧ zHm z p < zN z ∧ zHo z (zHm z p) = 0) ∧ (∀ r, zN z ≤ r → zDr z r = 0) ∧ (∀ r k, r < zN z → zN z ≤ k → k < 32 → bt (zDr z r) k = false) ∧ (∀ r k, r < zN z → k < zN z → bt (zDr z r) k = bt (zDr z k) r) ∧ (∀ r k, r < zN z → k < zN z → bt (zDr z r) k = true → 0 < zHo z r → zHo z k = 0)
theorem fsP_is {Q : Nat → Bool} : ∀ (n j : Nat), n + j < 2 ^ 31 → fsP Q n j = -1 ∨ ∃ k, j ≤ k ∧ k < j + n ∧ fsP Q n j = nI k ∧ Q k = true
  | 0, _, _ => Or.inl rfl
  | n + 1, j, h => by
    show (bif Q j then nI j else fsP Q n (j + 1)) = -1 ∨ ∃ k, j ≤ k ∧ k < j + (n + 1) ∧ (bif Q j then nI j else fsP Q n (j + 1)) = nI k ∧ Q k = true
    cases hq : Q j with
    | true => exact Or.inr ⟨j, Nat.le_refl _, by omega, rfl, hq⟩
    | false =>
      rcases fsP_is (Q := Q) n (j + 1) (by omega) with z | ⟨k, z1, z2, z3, z4⟩
      · exact Or.inl z
      · exact Or.inr ⟨k, by omega, by omega, z3, z4⟩
theorem knR_is {z : uPL} {ws : List Nat} (h : zN z ≤ 8) : knR z ws = -1 ∨ ∃ k, k < zN z ∧ knR z ws = nI k ∧ ix (knR z ws) = k := by
  rcases fsP_is (Q := fun r => decide (zRn z r = ws)) (zN z) 0 (by omega) with e | ⟨k, h1, h2, h3, h4⟩
  · exact Or.inl e
  · exact Or.inr ⟨k, by omega, h3, by rw [show knR z ws = nI k from h3, ix_nI (by omega)]⟩
theorem zW_R {z : uPL} {ws : List Nat} {h : Nat} (hz : zW z) (hw : okW ws) (hh : h ≤ 20) (hN : zN z < 8) : zW (addR z ws h) := by
  obtain ⟨⟨a1, a2, a3⟩, b1, b2, b3, b4, b5, b6⟩ := hz
  have eN : zN (addR z ws h) = zN z + 1 := rfl
  have eP : zP (addR z ws h) = zP z := rfl
  have dr0 : zDr z (zN z) = 0 := b3 _ (Nat.le_refl _)
  have ho_n : ∀ r, r < zN z → zHo (addR z ws h) r = zHo z r := fun r hr => upA_n (by omega)
  refine ⟨⟨by rw [eN]; omega, a2, a3⟩, fun r hr => ?_, fun p hp => ?_, fun r hr => b3 r (by rw [eN] at hr; omega), fun r k h1 h2 h3 => ?_, fun r k h1 h2 => ?_, fun r k h1 h2 h3 h4 => ?_⟩
  · rw [eN] at hr
    by_cases e : r = zN z
    · subst e
      exact ⟨by show okW (upA (zRn z) (zN z) ws (zN z)); rw [upA_s]; exact hw, by show upA (zHo z) (zN z) h (zN z) ≤ 20; rw [upA_s]; exact hh⟩
    · exact ⟨by show okW (upA (zRn z) (zN z) ws r); rw [upA_n e]; exact (b1 r (by omega)).1, by rw [ho_n r (by omega)]; exact (b1 r (by omega)).2⟩
  · obtain ⟨c1, c2, c3, c4, c5⟩ := b2 p hp
    exact ⟨c1, c2, c3, by rw [eN]; show zHm z p < _; omega, by show zHo (addR z ws h) (zHm z p) = 0; rw [ho_n _ c4]; exact c5⟩
  · rw [eN] at h1 h2
    show bt (zDr z r) k = false
    by_cases e : r = zN z
    · rw [e, dr0, b_0]
    · exact b4 r k (by omega) (by omega) h3
  · rw [eN] at h1 h2
    show bt (zDr z r) k = bt (zDr z k) r
    by_cases e : r = zN z
    · subst e
      rw [dr0, b_0]
      by_cases e2 : k = zN z
      · rw [e2, dr0, b_0]
      · rw [b4 k _ (by omega) (Nat.le_refl _) (by omega)]
    · by_cases e2 : k = zN z
      · subst e2
        rw [dr0, b_0, b4 r _ (by omega) (Nat.le_refl _) (by omega)]
      · exact b5 r k (by omega) (by omega)
  · rw [eN] at h1 h2
    have h3' : bt (zDr z r) k = true := h3
    by_cases e : r = zN z
    · rw [e, dr0, b_0] at h3'; cases h3'
    · by_cases e2 : k = zN z
      · rw [e2, b4 r _ (by omega) (Nat.le_refl _) (by omega)] at h3'; cases h3'
      · rw [ho_n k (by omega)]
        rw [ho_n r (by omega)] at h4
        exact b6 r k (by omega) (by omega) h3' h4
theorem bit1_bt {n i : Nat} (hn : n < 32) (hi : i < 32) : bt (bit1 n) i = decide (i = n) := b_one hn hi
theorem zW_D {z : uPL} {a b : Nat} (hz : zW z) (ha : a < zN z) (hb : b < zN z) (hD : zD z < 10) (hj : pJoin z a b = true) : zW (addD z a b) := by
  obtain ⟨⟨a1, a2, a3⟩, b1, b2, b3, b4, b5, b6⟩ := hz
  unfold pJoin at hj
  simp only [Bool.and_eq_true, Bool.not_eq_true', Bool.and_eq_false_iff, decide_eq_false_iff_not] at hj
  obtain ⟨j1, j2, j3⟩ := hj
  have dr : ∀ r k, r < zN z → k < 32 → bt (zDr (addD z a b) r) k = (bt (zDr z r) k || (decide (r = a) && decide (k = b)) || (decide (r = b) && decide (k = a))) := fun r k hr hk => by
    show bt (upA (upA (zDr z) a (zDr z a ||| bit1 b)) b (zDr z b ||| bit1 a) r) k = _
    by_cases e1 : r = b
    · rw [e1, upA_s, b_or, bit1_bt (by omega) hk, decide_eq_false (show ¬ b = a from fun z => j1 z.symm), decide_eq_true rfl]
      simp
    · rw [upA_n e1]
      by_cases e2 : r = a
      · rw [e2, upA_s, b_or, bit1_bt (by omega) hk, decide_eq_true rfl, decide_eq_false (show ¬ a = b from j1)]
        simp
      · rw [upA_n e2, decide_eq_false e1, decide_eq_false e2]
        simp
  refine ⟨⟨a1, a2, by show zD z + 1 ≤ 10; omega⟩, b1, b2, fun r hr => ?_, fun r k h1 h2 h3 => ?_, fun r k h1 h2 => ?_, fun r k h1 h2 h3 h4 => ?_⟩
  · show upA (upA (zDr z) a (zDr z a ||| bit1 b)) b (zDr z b ||| bit1 a) r = 0
    have hr' : zN z ≤ r := hr
    rw [upA_n (by omega), upA_n (by omega)]
    exact b3 r hr'
  · have h1' : r < zN z := h1
    have h2' : zN z ≤ k := h2
    rw [dr r k h1' h3, b4 r k h1' h2' h3, decide_eq_false (show ¬ k = b by omega), decide_eq_false (show ¬ k = a by omega)]
    simp
  · have h1' : r < zN z := h1
    have h2' : k < zN z := h2
    rw [dr r k h1' (by omega), dr k r h2' (by omega), b5 r k h1' h2']
    cases decide (r = a) <;> cases decide (k = b) <;> cases decide (r = b) <;> cases decide (k = a) <;> cases bt (zDr z k) r <;> rfl
  · have h1' : r < zN z := h1
    have h2' : k < zN z := h2
    have h4' : 0 < zHo z r := h4
    show zHo z k = 0
    rw [dr r k h1' (by omega)] at h3
    by_cases e : bt (zDr z r) k = true
    · exact b6 r k h1' h2' e h4'
    · have e' : bt (zDr z r) k = false := by
        cases h : bt (zDr z r) k with
        | true => exact absurd h e
        | false => rfl
      rw [e', Bool.false_or, Bool.or_eq_true, Bool.and_eq_true, Bool.and_eq_true, decide_eq_true_eq, decide_eq_true_eq, decide_eq_true_eq, decide_eq_true_eq] at h3
      rcases h3 with ⟨e1, e2⟩ | ⟨e1, e2⟩
      · subst e1 e2
        rcases j2 with z | z <;> omega
      · subst e1 e2
        rcases j2 with z | z <;> omega
theorem zW_P {z : uPL} {ws : List Nat} {k g h : Nat} (hz : zW z) (hw : okW ws) (hk : k ≤ 3) (hg : g ≤ 99) (hh : h < zN z) (h0 : zHo z h = 0) (hP : zP z < 5) : zW (addP z ws k g h) := by
  obtain ⟨⟨a1, a2, a3⟩, b1, b2, b3⟩ := hz
  refine ⟨⟨a1, by show zP z + 1 ≤ 5; omega, a3⟩, b1, fun p hp => ?_, b3⟩
  have hp' : p < zP z + 1 := hp
  show okW (upA (zPn z) (zP z) ws p) ∧ upA (zKi z) (zP z) k p ≤ 3 ∧ upA (zAg z) (zP z) g p ≤ 99 ∧ upA (zHm z) (zP z) h p < zN z ∧ zHo z (upA (zHm z) (zP z) h p) = 0
  by_cases e : p = zP z
  · rw [e, upA_s, upA_s, upA_s, upA_s]
    exact ⟨hw, hk, hg, hh, h0⟩
  · rw [upA_n e, upA_n e, upA_n e, upA_n e]
    exact b2 p (by omega)
theorem zW_0 : zW z0 := ⟨⟨by decide, by decide, by decide⟩, fun r hr => absurd hr (Nat.not_lt_zero r), fun p hp => absurd hp (Nat.not_lt_zero p), fun r _ => rfl, fun r k h1 => absurd h1 (Nat.not_lt_zero r), fun r k h1 => absurd h1 (Nat.not_lt_zero r), fun r k h1 => absurd h1 (Nat.not_lt_zero r)⟩

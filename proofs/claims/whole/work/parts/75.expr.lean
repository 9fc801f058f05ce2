/-! THE E: pure recursive descent; the class follows it -/
abbrev uPR : Type := Nat ⊕ (Nat × List Int32 × List Int32 × Bool)
def uB (o : uPR) (k : (Nat × List Int32 × List Int32 × Bool) → uPR) : uPR := match o with
  | .inl F => .inl F
  | .inr x => k x
def lvO (k : Nat) : Nat := bif decide (k = 42) then 3 else bif decide (k = 43) || decide (k = 45) then 2 else bif decide (k = 60) || decide (k = 61) then 1 else bif decide (k = 118) || decide (k = 119) then 0 else 9
def opC (k : Nat) : Nat := bif decide (k = 42) then 22 else bif decide (k = 43) then 20 else bif decide (k = 45) then 21 else bif decide (k = 60) then 24 else bif decide (k = 61) then 25 else bif decide (k = 118) then 26 else 27
def flC (m : Nat) (b : Bool) : Bool := bif decide (m = 1) then true else bif decide (m = 0) then false else b
/-- modes 0 to 3 the levels, 4 a PART, 5 to 8 the loops of the levels; r the class's steps, c the reference's codes, b whether one was compared -/
def pE (q : Nat × (Nat → Nat)) : Nat → Nat → Nat → Nat → List Int32 → List Int32 → Bool → uPR
  | 0, _, _, _, _, _, _ => .inl 0
  | n + 1, m, w, i, r, c, b =>
    if m < 4 then uB (pE q n (m + 1) w i r c b) (fun x => pE q n (m + 5) w x.1 x.2.1 x.2.2.1 x.2.2.2)
    else if m = 4 then
      (if kdT q i = 2 then (if 5 ≤ w then .inl (5 + 16 * bgT q i) else .inr (enT q i, r ++ [nI (nmT q i)], c ++ [nI (100 + nmT q i)], b))
      else if kdT q i = 117 then (if 5 ≤ w then .inl (5 + 16 * bgT q i) else uB (pE q n 4 (w + 1) (enT q i) r (c ++ [30]) b) (fun x => .inr (x.1, x.2.1 ++ [-117], x.2.2.1, b)))
      else if kdT q i = 40 then (if 5 ≤ w then .inl (5 + 16 * bgT q i) else uB (pE q n 0 (w + 1) (enT q i) r (c ++ [28]) false) (fun x => if kdT q x.1 = 41 then .inr (enT q x.1, x.2.1, x.2.2.1 ++ [29], b) else .inl (1 + 16 * bgT q x.1)))
      else if fcM q i = 0 then .inl (1 + 16 * bgT q i)
      else (if 5 ≤ w then .inl (5 + 16 * bgT q i) else .inr (enT q i, r ++ [-1 - nI (fcM q i - 1)], c ++ [nI (fcM q i)], b)))
    else if lvO (kdT q i) = m - 5 then uB (pE q n (m - 5 + 1) w (enT q i) r (c ++ [nI (opC (kdT q i))]) (flC (m - 5) b)) (fun x => if m - 5 = 1 then .inr (x.1, x.2.1 ++ [-nI (kdT q i)], x.2.2.1, x.2.2.2) else pE q n m w x.1 (x.2.1 ++ [-nI (kdT q i)]) x.2.2.1 x.2.2.2)
    else .inr (i, r, c, b)
section URPE
variable {q : Nat × (Nat → Nat)} {n m w i : Nat} {r c : List Int32} {b : Bool}
theorem pE_lv (hm : m < 4) : pE q (n + 1) m w i r c b = uB (pE q n (m + 1) w i r c b) (fun x => pE q n (m + 5) w x.1 x.2.1 x.2.2.1 x.2.2.2) := if_pos hm
theorem pE_pt : pE q (n + 1) 4 w i r c b = (if kdT q i = 2 then (if 5 ≤ w then .inl (5 + 16 * bgT q i) else .inr (enT q i, r ++ [nI (nmT q i)], c ++ [nI (100 + nmT q i)], b))
      else if kdT q i = 117 then (if 5 ≤ w then .inl (5 + 16 * bgT q i) else uB (pE q n 4 (w + 1) (enT q i) r (c ++ [30]) b) (fun x => .inr (x.1, x.2.1 ++ [-117], x.2.2.1, b)))
      else if kdT q i = 40 then (if 5 ≤ w then .inl (5 + 16 * bgT q i) else uB (pE q n 0 (w + 1) (enT q i) r (c ++ [28]) false) (fun x => if kdT q x.1 = 41 then .inr (enT q x.1, x.2.1, x.2.2.1 ++ [29], b) else .inl (1 + 16 * bgT q x.1)))
      else if fcM q i = 0 then .inl (1 + 16 * bgT q i)
      else (if 5 ≤ w then .inl (5 + 16 * bgT q i) else .inr (enT q i, r ++ [-1 - nI (fcM q i - 1)], c ++ [nI (fcM q i)], b))) := rfl
theorem pE_lp (hm : m < 4) : pE q (n + 1) (m + 5) w i r c b = if lvO (kdT q i) = m then uB (pE q n (m + 1) w (enT q i) r (c ++ [nI (opC (kdT q i))]) (flC m b)) (fun x => if m = 1 then .inr (x.1, x.2.1 ++ [-nI (kdT q i)], x.2.2.1, x.2.2.2) else pE q n (m + 5) w x.1 (x.2.1 ++ [-nI (kdT q i)]) x.2.2.1 x.2.2.2) else .inr (i, r, c, b) := by
  have e : pE q (n + 1) (m + 5) w i r c b = if m + 5 < 4 then _ else if m + 5 = 4 then _ else _ := rfl
  rw [e, if_neg (by omega), if_neg (by omega)]
  simp only [Nat.add_sub_cancel]
theorem fcM_3 (h : fcM q i ≠ 0) : kdT q i = 3 ∧ fcK (wlT q i) < 4 ∧ fcM q i = fcK (wlT q i) + 1 := by
  unfold fcM at h ⊢
  by_cases h1 : kdT q i = 3
  · rw [decide_eq_true h1, Bool.true_and] at h ⊢
    by_cases h2 : fcK (wlT q i) < 4
    · rw [decide_eq_true h2, cond_true]; exact ⟨h1, h2, rfl⟩
    · rw [decide_eq_false h2] at h; exact absurd rfl h
  · rw [decide_eq_false h1] at h; exact absurd rfl h
theorem lvO_1 {k m : Nat} (h : lvO k = m) (hm : m < 4) : k ≠ 1 ∧ (k = 42 ∨ k = 43 ∨ k = 45 ∨ k = 60 ∨ k = 61 ∨ k = 118 ∨ k = 119) := by
  have : k = 42 ∨ k = 43 ∨ k = 45 ∨ k = 60 ∨ k = 61 ∨ k = 118 ∨ k = 119 := by
    apply Classical.byContradiction
    intro z
    unfold lvO at h
    rw [decide_eq_false (by omega), decide_eq_false (by omega), decide_eq_false (by omega), decide_eq_false (by omega), decide_eq_false (by omega), decide_eq_false (by omega), decide_eq_false (by omega)] at h
    simp at h
    omega
  exact ⟨by omega, this⟩
/-- how far it goes, how much it lays -/
theorem pE_pr : ∀ (n m w i : Nat) (r c : List Int32) (b : Bool) (x : Nat × List Int32 × List Int32 × Bool), i ≤ q.1 → m ≤ 8 → pE q n m w i r c b = .inr x → x.1 ≤ q.1 ∧ i ≤ x.1 ∧ (m ≤ 4 → i < x.1) ∧ x.2.1.length ≤ r.length + (x.1 - i) ∧ x.2.2.1.length ≤ c.length + (x.1 - i) ∧ c.length ≤ x.2.2.1.length ∧ (m ≤ 4 → c.length < x.2.2.1.length) := by
  intro n
  induction n with
  | zero => intro m w i r c b x _ _ h; cases h
  | succ n ih =>
    intro m w i r c b x hi hm h
    have hn := tk_next hi
    by_cases h4 : m < 4
    · rw [pE_lv h4] at h
      cases h1 : pE q n (m + 1) w i r c b with
      | inl F => rw [h1] at h; cases h
      | inr y =>
        rw [h1] at h
        obtain ⟨a1, a2, a3, a4, a5, a6, a7⟩ := ih (m + 1) w i r c b y hi (by omega) h1
        have a3' := a3 (by omega)
        have a7' := a7 (by omega)
        obtain ⟨b1, b2, b3, b4, b5, b6, b7⟩ := ih (m + 5) w y.1 y.2.1 y.2.2.1 y.2.2.2 x a1 (by omega) h
        exact ⟨b1, by omega, fun _ => by omega, by omega, by omega, by omega, fun _ => by omega⟩
    · by_cases e4 : m = 4
      · subst e4
        rw [pE_pt] at h
        have leaf : ∀ (a : Int32) (k : Int32), kdT q i ≠ 1 → (Sum.inr (enT q i, r ++ [a], c ++ [k], b) : uPR) = .inr x → x.1 ≤ q.1 ∧ i ≤ x.1 ∧ (4 ≤ 4 → i < x.1) ∧ x.2.1.length ≤ r.length + (x.1 - i) ∧ x.2.2.1.length ≤ c.length + (x.1 - i) ∧ c.length ≤ x.2.2.1.length ∧ (4 ≤ 4 → c.length < x.2.2.1.length) := fun a k hk he => by
          have := Sum.inr.inj he
          subst this
          have h3 := hn.2.1 hk
          refine ⟨hn.1, by show i ≤ enT q i; omega, fun _ => h3, ?_, ?_, ?_, fun _ => ?_⟩
          · show (r ++ [a]).length ≤ r.length + (enT q i - i); simp; omega
          · show (c ++ [k]).length ≤ c.length + (enT q i - i); simp; omega
          · show c.length ≤ (c ++ [k]).length; simp
          · show c.length < (c ++ [k]).length; simp
        by_cases k2 : kdT q i = 2
        · rw [if_pos k2] at h
          by_cases hw : 5 ≤ w
          · rw [if_pos hw] at h; cases h
          · rw [if_neg hw] at h; exact leaf _ _ (by omega) h
        · rw [if_neg k2] at h
          by_cases k117 : kdT q i = 117
          · rw [if_pos k117] at h
            by_cases hw : 5 ≤ w
            · rw [if_pos hw] at h; cases h
            · rw [if_neg hw] at h
              have h3 := hn.2.1 (by omega)
              cases h1 : pE q n 4 (w + 1) (enT q i) r (c ++ [30]) b with
              | inl F => rw [h1] at h; cases h
              | inr y =>
                rw [h1] at h
                have := Sum.inr.inj h
                subst this
                obtain ⟨a1, a2, a3, a4, a5, a6, a7⟩ := ih 4 (w + 1) (enT q i) r (c ++ [30]) b y hn.1 (by omega) h1
                have a3' := a3 (Nat.le_refl 4)
                simp only [List.length_append, List.length_cons, List.length_nil] at a5 a6 a7
                refine ⟨a1, by show i ≤ y.1; omega, fun _ => by show i < y.1; omega, ?_, ?_, ?_, fun _ => ?_⟩
                · show (y.2.1 ++ [-117]).length ≤ r.length + (y.1 - i); simp only [List.length_append, List.length_cons, List.length_nil]; omega
                · show y.2.2.1.length ≤ c.length + (y.1 - i); omega
                · show c.length ≤ y.2.2.1.length; omega
                · show c.length < y.2.2.1.length; omega
          · rw [if_neg k117] at h
            by_cases k40 : kdT q i = 40
            · rw [if_pos k40] at h
              by_cases hw : 5 ≤ w
              · rw [if_pos hw] at h; cases h
              · rw [if_neg hw] at h
                have h3 := hn.2.1 (by omega)
                cases h1 : pE q n 0 (w + 1) (enT q i) r (c ++ [28]) false with
                | inl F => rw [h1] at h; cases h
                | inr y =>
                  rw [h1] at h
                  obtain ⟨a1, a2, a3, a4, a5, a6, a7⟩ := ih 0 (w + 1) (enT q i) r (c ++ [28]) false y hn.1 (by omega) h1
                  have a3' := a3 (by omega)
                  have hn2 := tk_next a1
                  have h' : (if kdT q y.1 = 41 then (.inr (enT q y.1, y.2.1, y.2.2.1 ++ [29], b) : uPR) else .inl (1 + 16 * bgT q y.1)) = .inr x := h
                  simp only [List.length_append, List.length_cons, List.length_nil] at a5 a6 a7
                  by_cases k41 : kdT q y.1 = 41
                  · rw [if_pos k41] at h'
                    have := Sum.inr.inj h'
                    subst this
                    have h4 := hn2.2.1 (by omega)
                    refine ⟨hn2.1, by show i ≤ enT q y.1; omega, fun _ => by show i < enT q y.1; omega, ?_, ?_, ?_, fun _ => ?_⟩
                    · show y.2.1.length ≤ r.length + (enT q y.1 - i); omega
                    · show (y.2.2.1 ++ [29]).length ≤ c.length + (enT q y.1 - i); simp only [List.length_append, List.length_cons, List.length_nil]; omega
                    · show c.length ≤ (y.2.2.1 ++ [29]).length; simp only [List.length_append, List.length_cons, List.length_nil]; omega
                    · show c.length < (y.2.2.1 ++ [29]).length; simp only [List.length_append, List.length_cons, List.length_nil]; omega
                  · rw [if_neg k41] at h'; cases h'
            · rw [if_neg k40] at h
              by_cases hf : fcM q i = 0
              · rw [if_pos hf] at h; cases h
              · rw [if_neg hf] at h
                by_cases hw : 5 ≤ w
                · rw [if_pos hw] at h; cases h
                · rw [if_neg hw] at h
                  have := fcM_3 hf
                  exact leaf _ _ (by omega) h
      · obtain ⟨m', rfl⟩ : ∃ m', m = m' + 5 := ⟨m - 5, by omega⟩
        rw [pE_lp (by omega)] at h
        by_cases hl : lvO (kdT q i) = m'
        · rw [if_pos hl] at h
          have h3 := hn.2.1 (lvO_1 hl (by omega)).1
          cases h1 : pE q n (m' + 1) w (enT q i) r (c ++ [nI (opC (kdT q i))]) (flC m' b) with
          | inl F => rw [h1] at h; cases h
          | inr y =>
            rw [h1] at h
            obtain ⟨a1, a2, a3, a4, a5, a6, a7⟩ := ih (m' + 1) w (enT q i) r (c ++ [nI (opC (kdT q i))]) (flC m' b) y hn.1 (by omega) h1
            have a3' := a3 (by omega)
            simp only [List.length_append, List.length_cons, List.length_nil] at a5 a6 a7
            have h' : (if m' = 1 then (.inr (y.1, y.2.1 ++ [-nI (kdT q i)], y.2.2.1, y.2.2.2) : uPR) else pE q n (m' + 5) w y.1 (y.2.1 ++ [-nI (kdT q i)]) y.2.2.1 y.2.2.2) = .inr x := h
            by_cases e1 : m' = 1
            · rw [if_pos e1] at h'
              have := Sum.inr.inj h'
              subst this
              refine ⟨a1, by show i ≤ y.1; omega, fun z => by omega, ?_, ?_, ?_, fun z => by omega⟩
              · show (y.2.1 ++ [-nI (kdT q i)]).length ≤ r.length + (y.1 - i); simp only [List.length_append, List.length_cons, List.length_nil]; omega
              · show y.2.2.1.length ≤ c.length + (y.1 - i); omega
              · show c.length ≤ y.2.2.1.length; omega
            · rw [if_neg e1] at h'
              obtain ⟨b1, b2, b3, b4, b5, b6, b7⟩ := ih (m' + 5) w y.1 (y.2.1 ++ [-nI (kdT q i)]) y.2.2.1 y.2.2.2 x a1 (by omega) h'
              simp only [List.length_append, List.length_cons, List.length_nil] at b4
              exact ⟨b1, by omega, fun z => by omega, by omega, by omega, by omega, fun z => by omega⟩
        · rw [if_neg hl] at h
          have := Sum.inr.inj h
          subst this
          exact ⟨hi, Nat.le_refl _, fun z => by omega, by show r.length ≤ r.length + (i - i); omega, by show c.length ≤ c.length + (i - i); omega, Nat.le_refl _, fun z => by omega⟩
end URPE

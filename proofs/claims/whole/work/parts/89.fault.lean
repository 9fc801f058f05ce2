/-! A FAULT IS NEVER 0; what reading leaves alone -/
def okF (q : Nat × (Nat → Nat)) (F : Nat) : Prop := 0 < F ∧ F ≤ 5 + 16 * q.1
section URFA
variable {s : List (Nat ⊕ (Nat × Nat))} {f f' l V : Nat → Nat → Int32} {g g' : Nat → Nat → Int64} {R : Nat → Nat → Option Nat} {L L' K K' N P : Nat} {E : Int32 → Int32 → Int32 → Int32 → Int32} {q : Nat × (Nat → Nat)} {z : uPL} {t : uTl} {i F : Nat}
theorem okF_k {k : Nat} (h : 0 < k) (h5 : k ≤ 5) (hi : i ≤ q.1) : okF q (k + 16 * bgT q i) := by
  have := (bgT_le hi).2
  unfold okF
  omega
theorem pE_F : ∀ (n m w i : Nat) (r c : List Int32) (b : Bool) (F : Nat), i ≤ q.1 → m ≤ 8 → (m ≤ 4 → 10 * (q.1 - i) + (4 - m) < n) → (5 ≤ m → 10 * (q.1 - i) < n) → pE q n m w i r c b = .inl F → okF q F := by
  intro n
  induction n with
  | zero => intro m w i r c b F hi hm h1 h2 h; rcases Nat.lt_or_ge m 5 with y | y
            · exact absurd (h1 (by omega)) (by omega)
            · exact absurd (h2 y) (by omega)
  | succ n ih =>
    intro m w i r c b F hi hm h1 h2 h
    have tk := tk_next hi
    by_cases h4 : m < 4
    · rw [pE_lv h4] at h
      have f1 := h1 (by omega)
      cases e : pE q n (m + 1) w i r c b with
      | inl F' =>
        rw [e] at h
        cases h
        exact ih (m + 1) w i r c b _ hi (by omega) (fun _ => by omega) (fun y => absurd y (by omega)) e
      | inr x =>
        rw [e] at h
        have pr := pE_pr _ _ _ _ _ _ _ _ hi (by omega) e
        have lt := pr.2.2.1 (by omega)
        exact ih (m + 5) w x.1 x.2.1 x.2.2.1 x.2.2.2 F pr.1 (by omega) (fun y => absurd y (by omega)) (fun _ => by omega) h
    · by_cases e4 : m = 4
      · subst e4
        rw [pE_pt] at h
        have f1 := h1 (by omega)
        by_cases k2 : kdT q i = 2
        · rw [if_pos k2] at h
          by_cases hw : 5 ≤ w
          · rw [if_pos hw] at h; cases h; exact okF_k (by decide) (by decide) hi
          · rw [if_neg hw] at h; cases h
        · rw [if_neg k2] at h
          by_cases k7 : kdT q i = 117
          · rw [if_pos k7] at h
            have up := tk.2.1 (by omega)
            by_cases hw : 5 ≤ w
            · rw [if_pos hw] at h; cases h; exact okF_k (by decide) (by decide) hi
            · rw [if_neg hw] at h
              cases e : pE q n 4 (w + 1) (enT q i) r (c ++ [30]) b with
              | inl F' =>
                rw [e] at h
                cases h
                exact ih _ _ _ _ _ _ _ tk.1 (by decide) (fun _ => by omega) (fun y => absurd y (by decide)) e
              | inr x => rw [e] at h; cases h
          · rw [if_neg k7] at h
            by_cases k0 : kdT q i = 40
            · rw [if_pos k0] at h
              have up := tk.2.1 (by omega)
              by_cases hw : 5 ≤ w
              · rw [if_pos hw] at h; cases h; exact okF_k (by decide) (by decide) hi
              · rw [if_neg hw] at h
                cases e : pE q n 0 (w + 1) (enT q i) r (c ++ [28]) false with
                | inl F' =>
                  rw [e] at h
                  cases h
                  exact ih _ _ _ _ _ _ _ tk.1 (by decide) (fun _ => by omega) (fun y => absurd y (by decide)) e
                | inr x =>
                  rw [e] at h
                  have pr := pE_pr _ _ _ _ _ _ _ _ tk.1 (by decide) e
                  have h' : (if kdT q x.1 = 41 then (Sum.inr (enT q x.1, x.2.1, x.2.2.1 ++ [29], b) : uPR) else .inl (1 + 16 * bgT q x.1)) = .inl F := h
                  by_cases k1 : kdT q x.1 = 41
                  · rw [if_pos k1] at h'; cases h'
                  · rw [if_neg k1] at h'; cases h'; exact okF_k (by decide) (by decide) pr.1
            · rw [if_neg k0] at h
              by_cases kf : fcM q i = 0
              · rw [if_pos kf] at h; cases h; exact okF_k (by decide) (by decide) hi
              · rw [if_neg kf] at h
                by_cases hw : 5 ≤ w
                · rw [if_pos hw] at h; cases h; exact okF_k (by decide) (by decide) hi
                · rw [if_neg hw] at h; cases h
      · obtain ⟨m', rfl⟩ : ∃ m', m = m' + 5 := ⟨m - 5, by omega⟩
        have hm' : m' < 4 := by omega
        rw [pE_lp hm'] at h
        have f2 := h2 (by omega)
        by_cases hl : lvO (kdT q i) = m'
        · rw [if_pos hl] at h
          have up := tk.2.1 (lvO_1 hl hm').1
          cases e : pE q n (m' + 1) w (enT q i) r (c ++ [nI (opC (kdT q i))]) (flC m' b) with
          | inl F' =>
            rw [e] at h
            cases h
            exact ih _ _ _ _ _ _ _ tk.1 (by omega) (fun _ => by omega) (fun y => absurd y (by omega)) e
          | inr x =>
            rw [e] at h
            have pr := pE_pr _ _ _ _ _ _ _ _ tk.1 (by omega) e
            have h' : (if m' = 1 then (Sum.inr (x.1, x.2.1 ++ [-nI (kdT q i)], x.2.2.1, x.2.2.2) : uPR) else pE q n (m' + 5) w x.1 (x.2.1 ++ [-nI (kdT q i)]) x.2.2.1 x.2.2.2) = .inl F := h
            by_cases k1 : m' = 1
            · rw [if_pos k1] at h'; cases h'
            · rw [if_neg k1] at h'
              have lt := pr.2.1
              exact ih (m' + 5) w x.1 _ _ _ F pr.1 (by omega) (fun y => absurd y (by omega)) (fun _ => by omega) h'
        · rw [if_neg hl] at h; cases h
theorem pNew_F (hi : i ≤ q.1) (h : pNew q z i ≠ 0) : okF q (pNew q z i) := by
  have b := (bgT_le hi).2
  unfold pNew at h ⊢
  unfold okF
  by_cases h1 : kdT q i ≠ 3
  · rw [if_pos h1]; omega
  · rw [if_neg h1] at h ⊢
    by_cases h2 : knR z (wlT q i) ≠ -1
    · rw [if_pos h2]; omega
    · rw [if_neg h2] at h ⊢
      by_cases h3 : knP z (wlT q i) ≠ -1
      · rw [if_pos h3]; omega
      · rw [if_neg h3] at h; exact absurd rfl h
theorem pRnm_F (hi : i ≤ q.1) (h : pRnm q z i ≠ 0) : okF q (pRnm q z i) := by
  have b := (bgT_le hi).2
  unfold pRnm at h ⊢
  unfold okF
  by_cases h1 : kdT q i ≠ 3
  · rw [if_pos h1]; omega
  · rw [if_neg h1] at h ⊢
    by_cases h2 : knR z (wlT q i) = -1
    · rw [if_pos h2]; omega
    · rw [if_neg h2] at h; exact absurd rfl h
theorem pNum_F {lo hi' : Nat} (hi : i ≤ q.1) (h : pNum q lo hi' i ≠ 0) : okF q (pNum q lo hi' i) := by
  have b := (bgT_le hi).2
  unfold pNum at h ⊢
  unfold okF
  by_cases h1 : kdT q i ≠ 2
  · rw [if_pos h1]; omega
  · rw [if_neg h1] at h ⊢
    by_cases h2 : lo ≤ nmT q i ∧ nmT q i ≤ hi'
    · rw [if_pos h2] at h; exact absurd rfl h
    · rw [if_neg h2]; omega
theorem pRoom_F {sil : Bool} (hi : i ≤ q.1) (h : pRoom q z sil i = .inl F) : okF q F := by
  have l1 := en_le hi
  have l2 := en_le l1
  have l3 := en_le l2
  unfold pRoom at h
  by_cases h1 : 8 ≤ zN z
  · rw [if_pos h1] at h; cases h; exact okF_k (by decide) (by decide) hi
  · rw [if_neg h1] at h
    by_cases h2 : pNew q z (enT q i) = 0
    · rw [if_neg (fun y => y h2)] at h
      by_cases h3 : sil = false
      · rw [if_pos h3] at h; cases h
      · rw [if_neg h3] at h
        by_cases h4 : kdT q (enT q (enT q i)) = 102
        · rw [if_neg (fun y => y h4)] at h
          by_cases h5 : pNum q 1 20 (enT q (enT q (enT q i))) = 0
          · rw [if_neg (fun y => y h5)] at h; cases h
          · rw [if_pos h5] at h; cases h; exact pNum_F l3 h5
        · rw [if_pos h4] at h; cases h; exact okF_k (by decide) (by decide) l2
    · rw [if_pos h2] at h; cases h; exact pNew_F l1 h2
theorem pDoor_F (hi : i ≤ q.1) (h : pDoor q z i = .inl F) : okF q F := by
  have l1 := en_le hi
  have l2 := en_le l1
  unfold pDoor at h
  by_cases h1 : 10 ≤ zD z
  · rw [if_pos h1] at h; cases h; exact okF_k (by decide) (by decide) hi
  · rw [if_neg h1] at h
    by_cases h2 : pRnm q z (enT q i) = 0
    · rw [if_neg (fun y => y h2)] at h
      by_cases h3 : pRnm q z (enT q (enT q i)) = 0
      · rw [if_neg (fun y => y h3)] at h
        by_cases h4 : pJoin z (ix (knR z (wlT q (enT q i)))) (ix (knR z (wlT q (enT q (enT q i))))) = true
        · rw [if_pos h4] at h; cases h
        · rw [if_neg h4] at h; cases h; exact okF_k (by decide) (by decide) l2
      · rw [if_pos h3] at h; cases h; exact pRnm_F l2 h3
    · rw [if_pos h2] at h; cases h; exact pRnm_F l1 h2
theorem pP2_F {ws : List Nat} {kk j : Nat} (hi : j ≤ q.1) (h : pP2 q z ws kk j = .inl F) : okF q F := by
  have l1 := en_le hi
  have l2 := en_le l1
  have l3 := en_le l2
  have l4 := en_le l3
  unfold pP2 at h
  by_cases h4 : kdT q (enT q j) = 105
  · rw [if_neg (fun y => y h4)] at h
    by_cases h5 : pNum q 0 99 (enT q (enT q j)) = 0
    · rw [if_neg (fun y => y h5)] at h
      by_cases h6 : kdT q (enT q (enT q (enT q j))) = 106
      · rw [if_neg (fun y => y h6)] at h
        by_cases h7 : pRnm q z (enT q (enT q (enT q (enT q j)))) = 0
        · rw [if_neg (fun y => y h7)] at h
          by_cases h8 : 0 < zHo z (ix (knR z (wlT q (enT q (enT q (enT q (enT q j)))))))
          · rw [if_pos h8] at h; cases h; exact okF_k (by decide) (by decide) l4
          · rw [if_neg h8] at h; cases h
        · rw [if_pos h7] at h; cases h; exact pRnm_F l4 h7
      · rw [if_pos h6] at h; cases h; exact okF_k (by decide) (by decide) l3
    · rw [if_pos h5] at h; cases h; exact pNum_F l2 h5
  · rw [if_pos h4] at h; cases h; exact okF_k (by decide) (by decide) l1
theorem pPers_F (hi : i ≤ q.1) (h : pPers q z i = .inl F) : okF q F := by
  have l1 := en_le hi
  have l2 := en_le l1
  rw [pPers_eq] at h
  by_cases h1 : 5 ≤ zP z
  · rw [if_pos h1] at h; cases h; exact okF_k (by decide) (by decide) hi
  · rw [if_neg h1] at h
    by_cases h2 : pNew q z (enT q i) = 0
    · rw [if_neg (fun y => y h2)] at h
      by_cases h3 : kdT q (enT q (enT q i)) < 113 ∨ 116 < kdT q (enT q (enT q i))
      · rw [if_pos h3] at h; cases h; exact okF_k (by decide) (by decide) l2
      · rw [if_neg h3] at h; exact pP2_F l2 h
    · rw [if_pos h2] at h; cases h; exact pNew_F l1 h2
theorem lf_F {o : uSR} (h : lfT t o = .inl F) : o = .inl F := by
  cases o with
  | inl F' => cases h; rfl
  | inr y => cases h
theorem pSt_F (hi : i ≤ q.1) (h : pSt q z t i = .inl F) : okF q F := by
  unfold pSt at h
  by_cases h1 : kdT q i = 100
  · rw [if_pos h1] at h; exact pRoom_F hi (lf_F h)
  · rw [if_neg h1] at h
    by_cases h2 : kdT q i = 101
    · rw [if_pos h2] at h; exact pRoom_F hi (lf_F h)
    · rw [if_neg h2] at h
      by_cases h3 : kdT q i = 103
      · rw [if_pos h3] at h; exact pDoor_F hi (lf_F h)
      · rw [if_neg h3] at h
        by_cases h4 : kdT q i = 104
        · rw [if_pos h4] at h; exact pPers_F hi (lf_F h)
        · rw [if_neg h4] at h
          by_cases h5 : kdT q i = 107
          · rw [if_pos h5] at h
            cases t with
            | some y => cases h; exact okF_k (by decide) (by decide) hi
            | none =>
              have h' : stE z (pE q (10 * q.1 + 5) 0 0 (enT q i) [] [] false) = .inl F := h
              cases e : pE q (10 * q.1 + 5) 0 0 (enT q i) [] [] false with
              | inl F' =>
                rw [e] at h'
                cases h'
                exact pE_F _ _ _ _ _ _ _ _ (en_le hi) (by decide) (fun _ => by omega) (fun y => absurd y (by decide)) e
              | inr y => rw [e] at h'; cases h'
          · rw [if_neg h5] at h; cases h; exact okF_k (by decide) (by decide) hi
theorem pAll_F (hch : ∀ k, k < q.1 → q.2 k < 128) (hq : q.1 ≤ 1000) : ∀ (n i : Nat) (z : uPL) (t : uTl), q.1 - i < n → i ≤ q.1 → zW z → tlW t → (∀ F, pAll q n i z t = .inl F → okF q F) ∧ (∀ x, pAll q n i z t = .inr x → zW x.1 ∧ tlW x.2)
  | 0, _, _, _, h, _, _, _ => absurd h (Nat.not_lt_zero _)
  | n + 1, i, z, t, h, hi, hz, ht => by
    show (∀ F, (if kdT q i = 1 then .inr (z, t) else uAb (pCz q (pSt q z t i)) (fun x => pAll q n x.1 x.2.1 x.2.2)) = .inl F → okF q F) ∧ (∀ x, (if kdT q i = 1 then .inr (z, t) else uAb (pCz q (pSt q z t i)) (fun x => pAll q n x.1 x.2.1 x.2.2)) = .inr x → zW x.1 ∧ tlW x.2)
    by_cases h1 : kdT q i = 1
    · rw [if_pos h1]
      exact ⟨fun F y => (by cases y), fun x y => (by cases y; exact ⟨hz, ht⟩)⟩
    · rw [if_neg h1]
      cases e : pSt q z t i with
      | inl F' =>
        refine ⟨fun F y => ?_, fun x y => ?_⟩
        · cases y; exact pSt_F hi e
        · cases y
      | inr x =>
        obtain ⟨o1, o2, o3, o4⟩ := pSt_ok hch hq hi hz ht e
        show (∀ F, uAb (if kdT q x.1 = 59 then .inr (enT q x.1, x.2) else .inl (1 + 16 * bgT q x.1)) (fun x => pAll q n x.1 x.2.1 x.2.2) = .inl F → okF q F) ∧ (∀ y, uAb (if kdT q x.1 = 59 then .inr (enT q x.1, x.2) else .inl (1 + 16 * bgT q x.1)) (fun x => pAll q n x.1 x.2.1 x.2.2) = .inr y → zW y.1 ∧ tlW y.2)
        by_cases k59 : kdT q x.1 = 59
        · rw [if_pos k59]
          have up := (tk_next o2).2.1 (by omega)
          have ul := (tk_next o2).1
          exact pAll_F hch hq n (enT q x.1) x.2.1 x.2.2 (by omega) ul o3 o4
        · rw [if_neg k59]
          refine ⟨fun F y => ?_, fun x y => ?_⟩
          · cases y; exact okF_k (by decide) (by decide) o2
          · cases y
theorem wkR_cg {cs cs' A : Nat → Int32} : ∀ (n k : Nat) (x : (Nat → Nat → Int32) × Nat), (∀ j, k ≤ j → j < k + n → cs' j = cs j) → wkR cs' A n k x = wkR cs A n k x
  | 0, _, _, _ => rfl
  | n + 1, k, x, h => by
    show (stW A (cs' k) x).bind (wkR cs' A n (k + 1)) = (stW A (cs k) x).bind (wkR cs A n (k + 1))
    rw [h k (Nat.le_refl k) (by omega), show wkR cs' A n (k + 1) = wkR cs A n (k + 1) from funext (fun y => wkR_cg n (k + 1) y (fun j h1 h2 => h j (by omega) (by omega)))]
theorem lwM.fr (h : lwM f 208 E) (h0 : f' 218 0 = f 218 0) (h1 : f' 219 0 = f 219 0) (h2 : ∀ k, k < 1000 → f' 220 k = f 220 k) : lwM f' 208 E := by
  obtain ⟨k, n, e1, e2, e3, e4⟩ := h
  refine ⟨k, n, h0.trans e1, h1.trans e2, e3, ?_⟩
  rcases e4 with e | ⟨e5, e6⟩
  · exact Or.inl e
  · refine Or.inr ⟨e5, fun A W => ?_⟩
    have e := wkR_cg (cs := f (208 + 12)) (cs' := f' (208 + 12)) (A := A) n k (oW W 0, 0) (fun j h3 h4 => h2 j (by omega))
    have e7 := e6 A W
    unfold wkM at e7 ⊢
    rw [e]
    exact e7
def TRd (L' : Nat) : Nat → Nat → Prop := fun a k => TZa L' a k ∨ (a = 1 ∧ k = 1) ∨ TMr a k ∨ (a = 208 ∧ k = 0)
theorem j_rd (h : JV s R f g L L' K K' l V N P E) (t : eqT (TRd L') f f') (tg : eqL (fun a k => GLa L' a k ∨ GMa a k) g g') (ht : tpJ f') : JV s R f' g' L L' K K' l V N P E := by
  obtain ⟨⟨h1, h2, h3, h4⟩, h5, h6, h7, h8, h9, h10⟩ := h
  have hL := h1.eL
  have hK := h1.eK
  have hP := h4.p5
  have hN := h4.r8
  have no : ∀ a k, TRd L' a k → (a = 1 ∧ k ≤ 7) ∨ (L' ≤ a ∧ a < L' + 10) ∨ (a = 208 ∧ k ≤ 34) ∨ (a = 210 ∧ 3 ≤ k) ∨ ((a = 212 ∨ a = 213) ∧ 8 ≤ k) ∨ ((a = 215 ∨ a = 216 ∨ a = 217) ∧ 5 ≤ k) ∨ ((a = 218 ∨ a = 219) ∧ k = 1) ∨ (a = 220 ∧ 1000 ≤ k) ∨ a = 221 ∨ a = 222 := fun a k z => by
    unfold TRd TZa TMr TMz TMa TG at z
    omega
  have ng : ∀ a k, (GLa L' a k ∨ GMa a k) → (a = 1 ∧ k = 5) ∨ a = L' + 1 ∨ a = L' + 4 ∨ a = 208 ∨ (a = 211 ∧ 8 ≤ k) ∨ (a = 214 ∧ 5 ≤ k) := fun a k z => by
    unfold GLa GMa at z
    omega
  have e : ∀ a k, ¬ ((a = 1 ∧ k ≤ 7) ∨ (L' ≤ a ∧ a < L' + 10) ∨ (a = 208 ∧ k ≤ 34) ∨ (a = 210 ∧ 3 ≤ k) ∨ ((a = 212 ∨ a = 213) ∧ 8 ≤ k) ∨ ((a = 215 ∨ a = 216 ∨ a = 217) ∧ 5 ≤ k) ∨ ((a = 218 ∨ a = 219) ∧ k = 1) ∨ (a = 220 ∧ 1000 ≤ k) ∨ a = 221 ∨ a = 222) → f' a k = f a k := fun a k hn => t a k (fun z => hn (no a k z))
  have eg : ∀ a k, ¬ ((a = 1 ∧ k = 5) ∨ a = L' + 1 ∨ a = L' + 4 ∨ a = 208 ∨ (a = 211 ∧ 8 ≤ k) ∨ (a = 214 ∧ 5 ≤ k)) → g' a k = g a k := fun a k hn => tg a k (fun z => hn (ng a k z))
  have m4 : cM s R f' 208 l V N P E := by
    obtain ⟨c1, ⟨r1, ⟨a1, a2, a3, a4, a5⟩, b1, b2, b3, b4, b5, b6⟩, c3, c4⟩ := h4
    refine ⟨c1, ⟨r1, ⟨a1, a2, (e 210 0 (by omega)).trans a3, (e 210 2 (by omega)).trans a4, (e 210 1 (by omega)).trans a5⟩, fun r hr => ?_, b2, b3, b4, b5, fun p hp => ?_⟩, ?_, c4.fr (e 218 0 (by omega)) (e 219 0 (by omega)) (fun k hk => e 220 k (by omega))⟩
    · exact ⟨(e 212 r (by omega)).trans (b1 r hr).1, (e 213 r (by omega)).trans (b1 r hr).2.1, (b1 r hr).2.2⟩
    · exact ⟨(e 215 p (by omega)).trans (b6 p hp).1, (e 216 p (by omega)).trans (b6 p hp).2.1, (e 217 p (by omega)).trans (b6 p hp).2.2.1, (b6 p hp).2.2.2⟩
    · exact c3.eqv hP reqv.refl (fun k hk => e 241 k (by omega))
  refine ⟨⟨h1, h2.fr t (h2.bn.fr t (fun i k hi z => ?_)) (fun a k a1 a2 z => ?_), h3, m4⟩, ⟨fun r hr => ?_, fun p hp => ?_⟩, ht, h7.fr t (fun a k hk z => ?_), h8.fr t (fun a k hk z => ?_), h9.fr hP t (fun a k hk z => ?_), h10.fr hP t (fun a k hk z => ?_)⟩
  · have := no _ _ z; omega
  · have := no _ _ z; unfold TL; omega
  · rw [eg _ _ (by omega), eg _ _ (by omega)]; exact h5.1 r hr
  · rw [eg _ _ (by omega), eg _ _ (by omega)]; exact h5.2 p hp
  · have := no _ _ z; omega
  · have := no _ _ z; omega
  · have := no _ _ z; omega
  · have := no _ _ z; omega
end URFA

/-! THE E: what is read has one value on both sides -/
def fcV (k : Nat) : uVF := fun u t y n => if k = 0 then u else if k = 1 then t else if k = 2 then y else n
def SEM (m w : Nat) (r c r' c' : List Int32) : Prop :=
  (m < 4 → ∃ r2 c2 v, r' = r ++ r2 ∧ c' = c ++ c2 ∧ RX (Hm m w) r2 v ∧ MLv m w c2 v) ∧
  (m = 4 → ∃ r2 c2 v, r' = r ++ r2 ∧ c' = c ++ c2 ∧ RX (Hm 4 w) r2 v ∧ M4v w c2 v) ∧
  (∀ m', m = m' + 5 → ∃ r2 c2 F, r' = r ++ r2 ∧ c' = c ++ c2 ∧ (∀ r1 v, RX (Hm m' w) r1 v → RX (Hm m' w) (r1 ++ r2) (F v)) ∧ MLo m' w c2 F)
theorem st_numX {u t y n : Int32} {k : Nat} (hk : k < 2 ^ 31) (x : Nat × (Nat → Int32)) : stX u t y n (nI k) x = puX x (nI k) := by
  have ne : ∀ c : Int32, c < 0 → decide (nI k = c) = false := fun c hc => decide_eq_false (fun z => by rw [← z] at hc; exact nI_pos hk hc)
  unfold stX foX
  rw [ne (-117) (by decide), ne (-4) (by decide), ne (-3) (by decide), ne (-2) (by decide), ne (-1) (by decide), decide_eq_false (nI_pos hk)]
  rfl
theorem st_fcX {u t y n : Int32} {k : Nat} (hk : k < 4) (x : Nat × (Nat → Int32)) : stX u t y n (-1 - nI k) x = puX x (fcV k u t y n) := by
  match k, hk with
  | 0, _ => rfl
  | 1, _ => rfl
  | 2, _ => rfl
  | 3, _ => rfl
theorem fcV_A {k : Nat} (hk : k < 4) (A : Nat → Int32) : vAt (fcV k) A = A (k + 1) := by
  match k, hk with
  | 0, _ => rfl
  | 1, _ => rfl
  | 2, _ => rfl
  | 3, _ => rfl
theorem Hm_s {m w : Nat} (hm : m < 4) : Hm m w = Hm (m + 1) w + 1 := by unfold Hm; omega
section URSE
variable {q : Nat × (Nat → Nat)}
theorem pE_sem (hch : ∀ k, k < q.1 → q.2 k < 128) : ∀ (n m w i : Nat) (r c : List Int32) (b : Bool) (x : Nat × List Int32 × List Int32 × Bool), i ≤ q.1 → w ≤ 5 → m ≤ 8 → pE q n m w i r c b = .inr x → SEM m w r c x.2.1 x.2.2.1 := by
  intro n
  induction n with
  | zero => intro m w i r c b x _ _ _ h; cases h
  | succ n ih =>
    intro m w i r c b x hi hw hm h
    have hn := tk_next hi
    -- an operand of a level
    have opd : ∀ (m i : Nat) (r c : List Int32) (b : Bool) (y : Nat × List Int32 × List Int32 × Bool), m < 4 → i ≤ q.1 → pE q n (m + 1) w i r c b = .inr y → ∃ r1 c1 v, y.2.1 = r ++ r1 ∧ y.2.2.1 = c ++ c1 ∧ RX (Hm (m + 1) w) r1 v ∧ ((m < 3 → MLv (m + 1) w c1 v) ∧ (m = 3 → M4v w c1 v)) := fun m i r c b y hm4 hi h1 => by
      have s := ih (m + 1) w i r c b y hi hw (by omega) h1
      by_cases e3 : m = 3
      · subst e3
        obtain ⟨r1, c1, v, a1, a2, a3, a4⟩ := s.2.1 rfl
        exact ⟨r1, c1, v, a1, a2, a3, fun z => absurd z (by omega), fun _ => a4⟩
      · obtain ⟨r1, c1, v, a1, a2, a3, a4⟩ := s.1 (by omega)
        exact ⟨r1, c1, v, a1, a2, a3, fun _ => a4, fun z => absurd z e3⟩
    by_cases h4 : m < 4
    · rw [pE_lv h4] at h
      cases h1 : pE q n (m + 1) w i r c b with
      | inl F => rw [h1] at h; cases h
      | inr y =>
        rw [h1] at h
        obtain ⟨r1, c1, v, a1, a2, a3, a4⟩ := opd m i r c b y h4 hi h1
        have pr := pE_pr n (m + 1) w i r c b y hi (by omega) h1
        obtain ⟨r2, c2, F, b1, b2, b3, b4⟩ := (ih (m + 5) w y.1 y.2.1 y.2.2.1 y.2.2.2 x pr.1 hw (by omega) h).2.2 m rfl
        refine ⟨fun _ => ⟨r1 ++ r2, c1 ++ c2, F v, by rw [b1, a1, List.append_assoc], by rw [b2, a2, List.append_assoc], b3 r1 v (RX_mono a3 (by rw [Hm_s h4]; omega)), ML_lv h4 a4 b4⟩, fun z => absurd z (by omega), fun m' z => absurd z (by omega)⟩
    · by_cases e4 : m = 4
      · subst e4
        refine ⟨fun z => absurd z (by omega), fun _ => ?_, fun m' z => absurd z (by omega)⟩
        rw [pE_pt] at h
        by_cases k2 : kdT q i = 2
        · rw [if_pos k2] at h
          by_cases hw5 : 5 ≤ w
          · rw [if_pos hw5] at h; cases h
          · rw [if_neg hw5] at h
            have := Sum.inr.inj h
            subst this
            have hnm := nm_lt hch hi k2
            refine ⟨[nI (nmT q i)], [nI (100 + nmT q i)], fun _ _ _ _ => nI (nmT q i), rfl, rfl, RX_leaf (by unfold Hm; omega) (fun u t y n x => st_numX (by omega) x), fun A W => ⟨W, fun _ _ _ => rfl, ?_⟩⟩
            show (stW A (nI (100 + nmT q i)) (W, w)).bind (wkL A []) = _
            rw [st_num hnm]
            rfl
        · rw [if_neg k2] at h
          by_cases k117 : kdT q i = 117
          · rw [if_pos k117] at h
            by_cases hw5 : 5 ≤ w
            · rw [if_pos hw5] at h; cases h
            · rw [if_neg hw5] at h
              cases h1 : pE q n 4 (w + 1) (enT q i) r (c ++ [30]) b with
              | inl F => rw [h1] at h; cases h
              | inr y =>
                rw [h1] at h
                have := Sum.inr.inj h
                subst this
                obtain ⟨r1, c1, v, a1, a2, a3, a4⟩ := (ih 4 (w + 1) (enT q i) r (c ++ [30]) b y hn.1 (by omega) (by omega) h1).2.1 rfl
                refine ⟨r1 ++ [-117], 30 :: c1, _, ?_, ?_, RX_not (RX_mono a3 (by unfold Hm; omega)) (by unfold Hm; omega), M4_not (by omega) a4⟩
                · show y.2.1 ++ [-117] = _
                  rw [a1, List.append_assoc]
                · show y.2.2.1 = _
                  rw [a2, List.append_assoc]
                  rfl
          · rw [if_neg k117] at h
            by_cases k40 : kdT q i = 40
            · rw [if_pos k40] at h
              by_cases hw5 : 5 ≤ w
              · rw [if_pos hw5] at h; cases h
              · rw [if_neg hw5] at h
                cases h1 : pE q n 0 (w + 1) (enT q i) r (c ++ [28]) false with
                | inl F => rw [h1] at h; cases h
                | inr y =>
                  rw [h1] at h
                  have h' : (if kdT q y.1 = 41 then (.inr (enT q y.1, y.2.1, y.2.2.1 ++ [29], b) : uPR) else .inl (1 + 16 * bgT q y.1)) = .inr x := h
                  by_cases k41 : kdT q y.1 = 41
                  · rw [if_pos k41] at h'
                    have := Sum.inr.inj h'
                    subst this
                    obtain ⟨r1, c1, v, a1, a2, a3, a4⟩ := (ih 0 (w + 1) (enT q i) r (c ++ [28]) false y hn.1 (by omega) (by omega) h1).1 (by omega)
                    refine ⟨r1, 28 :: (c1 ++ [29]), v, a1, ?_, RX_mono a3 (by unfold Hm; omega), M4_par (by omega) a4⟩
                    show y.2.2.1 ++ [29] = _
                    rw [a2, List.append_assoc, List.append_assoc]
                    rfl
                  · rw [if_neg k41] at h'; cases h'
            · rw [if_neg k40] at h
              by_cases hf : fcM q i = 0
              · rw [if_pos hf] at h; cases h
              · rw [if_neg hf] at h
                obtain ⟨z3, z4, z5⟩ := fcM_3 hf
                by_cases hw5 : 5 ≤ w
                · rw [if_pos hw5] at h; cases h
                · rw [if_neg hw5] at h
                  have := Sum.inr.inj h
                  subst this
                  have e1 : fcM q i = fcM q i - 1 + 1 := by omega
                  have hk : fcM q i - 1 < 4 := by omega
                  refine ⟨[-1 - nI (fcM q i - 1)], [nI (fcM q i)], fcV (fcM q i - 1), rfl, rfl, RX_leaf (by unfold Hm; omega) (fun u t y n x => st_fcX hk x), fun A W => ⟨W, fun _ _ _ => rfl, ?_⟩⟩
                  show (stW A (nI (fcM q i)) (W, w)).bind (wkL A []) = _
                  rw [fcV_A hk]
                  generalize fcM q i - 1 = k at e1 hk
                  rw [e1, st_fc hk]
                  rfl
      · obtain ⟨m', rfl⟩ : ∃ m', m = m' + 5 := ⟨m - 5, by omega⟩
        refine ⟨fun z => absurd z (by omega), fun z => absurd z (by omega), fun m2 z => ?_⟩
        have em : m2 = m' := by omega
        subst em
        rw [pE_lp (by omega)] at h
        by_cases hl : lvO (kdT q i) = m2
        · rw [if_pos hl] at h
          have hkk := (lvO_1 hl (by omega)).2
          cases h1 : pE q n (m2 + 1) w (enT q i) r (c ++ [nI (opC (kdT q i))]) (flC m2 b) with
          | inl F => rw [h1] at h; cases h
          | inr y =>
            rw [h1] at h
            obtain ⟨r1, c1, v1, a1, a2, a3, a4⟩ := opd m2 (enT q i) r (c ++ [nI (opC (kdT q i))]) (flC m2 b) y (by omega) hn.1 h1
            have pr := pE_pr n (m2 + 1) w (enT q i) r (c ++ [nI (opC (kdT q i))]) (flC m2 b) y hn.1 (by omega) h1
            have hop := ML_op (w := w) hl (show m2 < 4 by omega) a4
            have hbin : ∀ r0 v, RX (Hm m2 w) r0 v → RX (Hm m2 w) (r0 ++ (r1 ++ [-nI (kdT q i)])) (fun u t y n => jnX (nI (kdT q i)) (v u t y n) (v1 u t y n)) := fun r0 v hv => by
              rw [Hm_s (show m2 < 4 by omega)] at hv ⊢
              exact RX_bin hkk hv a3
            have h' : (if m2 = 1 then (.inr (y.1, y.2.1 ++ [-nI (kdT q i)], y.2.2.1, y.2.2.2) : uPR) else pE q n (m2 + 5) w y.1 (y.2.1 ++ [-nI (kdT q i)]) y.2.2.1 y.2.2.2) = .inr x := h
            by_cases e1 : m2 = 1
            · rw [if_pos e1] at h'
              have := Sum.inr.inj h'
              subst this
              refine ⟨r1 ++ [-nI (kdT q i)], nI (opC (kdT q i)) :: c1, _, ?_, ?_, hbin, hop⟩
              · show y.2.1 ++ [-nI (kdT q i)] = _
                rw [a1, List.append_assoc]
              · show y.2.2.1 = _
                rw [a2, List.append_assoc]
                rfl
            · rw [if_neg e1] at h'
              obtain ⟨r3, c3, F3, b1, b2, b3, b4⟩ := (ih (m2 + 5) w y.1 (y.2.1 ++ [-nI (kdT q i)]) y.2.2.1 y.2.2.2 x pr.1 hw (by omega) h').2.2 m2 rfl
              refine ⟨r1 ++ [-nI (kdT q i)] ++ r3, (nI (opC (kdT q i)) :: c1) ++ c3, _, ?_, ?_, fun r0 v hv => ?_, MLo_app e1 hop b4⟩
              · rw [b1, a1]
                simp only [List.append_assoc]
              · rw [b2, a2]
                simp only [List.append_assoc, List.cons_append, List.nil_append]
              · have := b3 _ _ (hbin r0 v hv)
                rw [List.append_assoc] at this
                exact this
        · rw [if_neg hl] at h
          have := Sum.inr.inj h
          subst this
          exact ⟨[], [], fun v => v, by show r = r ++ []; simp, by show c = c ++ []; simp, fun r1 v hv => by rw [List.append_nil]; exact hv, MLo_nil⟩
/-- the steps' value, the codes' value -/
theorem lI_cases (a : List Int32) : a = [] ∨ ∃ b c, a = b ++ [c] := by
  rcases List.eq_nil_or_concat a with h | ⟨b, c, h⟩
  · exact Or.inl h
  · exact Or.inr ⟨b, c, by rw [h]; simp⟩
theorem ru_li (st : Nat → Int32) (u t y n : Int32) : ∀ (l : Nat) (r : List Int32) (x : Nat × (Nat → Int32)), r.length = l → (∀ k, k < r.length → st k = r.getD k 0) → ruX st u t y n l x = runL u t y n r x
  | 0, r, x, hl, _ => by
    rw [List.eq_nil_of_length_eq_zero hl]
    rfl
  | l + 1, r, x, hl, h => by
    rcases lI_cases r with rfl | ⟨b, c, rfl⟩
    · cases hl
    · have hb : b.length = l := by simpa using hl
      show stX u t y n (st l) (ruX st u t y n l x) = _
      rw [ru_li st u t y n l b x hb (fun k hk => by rw [h k (by simp only [List.length_append, List.length_cons, List.length_nil]; omega), li_app_lt b c hk]), ← hb, h b.length (by simp only [List.length_append, List.length_cons, List.length_nil]; omega), li_app_eq, runL_app]
      rfl
theorem wk_li (cs A : Nat → Int32) : ∀ (c : List Int32) (k : Nat) (x : (Nat → Nat → Int32) × Nat), (∀ j, j < c.length → cs (k + j) = c.getD j 0) → wkR cs A c.length k x = wkL A c x
  | [], _, _, _ => rfl
  | a :: c, k, x, h => by
    show (stW A (cs k) x).bind (wkR cs A c.length (k + 1)) = (stW A a x).bind (wkL A c)
    have h0 : cs k = a := h 0 (by simp)
    rw [h0]
    cases stW A a x with
    | none => rfl
    | some y =>
      refine wk_li cs A c (k + 1) y (fun j hj => ?_)
      have := h (j + 1) (by simp only [List.length_cons]; omega)
      rw [show k + 1 + j = k + (j + 1) by omega, this]
      rfl
/-- the law that was read -/
theorem E_law (hch : ∀ k, k < q.1 → q.2 k < 128) {n i : Nat} {x : Nat × List Int32 × List Int32 × Bool} (hi : i ≤ q.1) (h : pE q n 0 0 i [] [] false = .inr x) : ∃ v : uVF, (∀ st, (∀ k, k < x.2.1.length → st k = x.2.1.getD k 0) → ∀ u t y m K, vlX st x.2.1.length u t y m K = v u t y m) ∧ (∀ cs k, (∀ j, j < x.2.2.1.length → cs (k + j) = x.2.2.1.getD j 0) → ∀ A W, wkM cs A k x.2.2.1.length W = some (vAt v A)) := by
  obtain ⟨r2, c2, v, a1, a2, a3, a4⟩ := (pE_sem hch n 0 0 i [] [] false x hi (by omega) (by omega) h).1 (by omega)
  rw [List.nil_append] at a1 a2
  rw [a1, a2]
  refine ⟨v, fun st hst u t y m K => ?_, fun cs k hcs A W => ?_⟩
  · obtain ⟨K2, k1, k2, -⟩ := a3 u t y m (0, K) (by unfold Hm; show 0 + (1 + 4 * (5 - 0) + (4 - 0)) ≤ 32; decide)
    unfold vlX
    rw [ru_li st u t y m r2.length r2 (0, K) rfl hst, k1]
    exact k2
  · unfold wkM
    rw [wk_li cs A c2 k _ hcs]
    obtain ⟨W1, b1, -, -, b4⟩ := a4 A (oW W 0) (Or.inl rfl) (by
      refine ⟨?_, fun _ => ⟨?_, ?_⟩, fun _ => ?_, fun _ => ?_⟩ <;> unfold oW
      · rw [uW_s]
      · rw [uW_n (by decide), uW_n (by decide), uW_s]
      · rw [uW_n (by decide), uW_s]
      · rw [uW_n (by decide), uW_n (by decide), uW_n (by decide), uW_s]
      · rw [uW_n (by decide), uW_n (by decide), uW_n (by decide), uW_n (by decide), uW_s])
    rw [b1]
    show some (tW W1 0 0 0) = _
    rw [tW_0]
    exact congrArg some b4
end URSE

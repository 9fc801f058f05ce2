/-! THE E: the reference's flat loop follows the descent -/
def upA {α : Type} (B : Nat → α) (k : Nat) (v : α) : Nat → α := fun e => if e = k then v else B e
theorem upA_s {α : Type} {B : Nat → α} {k : Nat} {v : α} : upA B k v k = v := if_pos rfl
theorem upA_n {α : Type} {B : Nat → α} {k e : Nat} {v : α} (h : e ≠ k) : upA B k v e = B e := if_neg h
def lawM (f : Nat → Nat → Int32) (c : List Int32) : Prop := f 208 21 = nI (1000 + c.length) ∧ ∀ k, k < c.length → f 220 (1000 + k) = c.getD k 0
def opnS (f : Nat → Nat → Int32) (w : Nat) (O : Nat → Nat) : Prop := ∀ e, 1 ≤ e → e ≤ w → f 221 e = nI (O e) ∧ (O e = 1 ∨ O e = 2)
def cmS (f : Nat → Nat → Int32) (w : Nat) (B : Nat → Bool) : Prop := ∀ e, e ≤ w → f 222 e = ur_b (B e)
def bsD (O : Nat → Nat) : Nat → Nat
  | 0 => 0
  | w + 1 => bif decide (O (w + 1) = 1) then bsD O w else w + 1
theorem bsD_le (O : Nat → Nat) : ∀ w, bsD O w ≤ w
  | 0 => Nat.le_refl 0
  | w + 1 => by
    have := bsD_le O w
    show (bif decide (O (w + 1) = 1) then bsD O w else w + 1) ≤ w + 1
    cases decide (O (w + 1) = 1) <;> simp <;> omega
theorem bsD_cg {O O' : Nat → Nat} : ∀ w, (∀ e, e ≤ w → O' e = O e) → bsD O' w = bsD O w
  | 0, _ => rfl
  | w + 1, h => by
    show (bif decide (O' (w + 1) = 1) then bsD O' w else w + 1) = (bif decide (O (w + 1) = 1) then bsD O w else w + 1)
    rw [h (w + 1) (Nat.le_refl _), bsD_cg w (fun e he => h e (by omega))]
def TG : Nat → Nat → Prop := fun a k => (a = 208 ∧ ((4 ≤ k ∧ k ≤ 9) ∨ k = 21)) ∨ (a = 220 ∧ 1000 ≤ k) ∨ a = 221 ∨ a = 222
def mSt (f : Nat → Nat → Int32) (g : Nat → Nat → Int64) (q : Nat × (Nat → Nat)) (i : Nat) (c : List Int32) (w : Nat) (O : Nat → Nat) (B : Nat → Bool) : Prop := mS f g q i ∧ lawM f c ∧ opnS f w O ∧ cmS f w B
noncomputable abbrev mAt (s : List (Nat ⊕ (Nat × Nat))) (R : Nat → Nat → Option Nat) (d pc w : Nat) (v : Int32) (f : Nat → Nat → Int32) (g : Nat → Nat → Int64) : Option ur_V := ur_at ur_G (d + 2) 151 (pc, [some (.ref 208), some (.int (nI w)), some (.int v), none, none, none], [], (s, f, g, R))
/-- what comes of it: the fault, or on and on at depth w' -/
def mER (s : List (Nat ⊕ (Nat × Nat))) (R : Nat → Nat → Option Nat) (q : Nat × (Nat → Nat)) (d w : Nat) (v : Int32) (f : Nat → Nat → Int32) (g : Nat → Nat → Int64) (w' : Nat) (O : Nat → Nat) (B : Nat → Bool) (u : Bool) (o : uPR) : Prop := match o with
  | .inl F => ∃ f' g', mAt s R d 11 w v f g = some (0, (s, f', g', R)) ∧ f' 208 9 = nI F ∧ eqT TG f f' ∧ eqL GF2 g g'
  | .inr x => ∃ f' g', mSt f' g' q x.1 x.2.2.1 w' O (bif u then upA B w' x.2.2.2 else B) ∧ eqT TG f f' ∧ eqL GF2 g g' ∧ ∀ rr, mAt s R d 11 w' 0 f' g' = some rr → mAt s R d 11 w v f g = some rr
def exF (m k : Nat) (b : Bool) : Prop := (m ≤ 3 → lvO k ≠ 3) ∧ (m ≤ 2 → lvO k ≠ 2) ∧ (m ≤ 1 → lvO k = 1 → b = true) ∧ (m = 0 → lvO k ≠ 0)
section URPX
variable {q : Nat × (Nat → Nat)}
/-- the flag stays, at sums and below -/
theorem pE_fl : ∀ (n m w i : Nat) (r c : List Int32) (b : Bool) (x : Nat × List Int32 × List Int32 × Bool), (m = 2 ∨ m = 3 ∨ m = 4 ∨ m = 7 ∨ m = 8) → pE q n m w i r c b = .inr x → x.2.2.2 = b := by
  intro n
  induction n with
  | zero => intro m w i r c b x _ h; cases h
  | succ n ih =>
    intro m w i r c b x hm h
    by_cases h4 : m < 4
    · rw [pE_lv h4] at h
      cases h1 : pE q n (m + 1) w i r c b with
      | inl F => rw [h1] at h; cases h
      | inr y =>
        rw [h1] at h
        rw [ih (m + 5) w y.1 y.2.1 y.2.2.1 y.2.2.2 x (by omega) h, ih (m + 1) w i r c b y (by omega) h1]
    · by_cases e4 : m = 4
      · subst e4
        rw [pE_pt] at h
        by_cases k2 : kdT q i = 2
        · rw [if_pos k2] at h
          by_cases hw : 5 ≤ w
          · rw [if_pos hw] at h; cases h
          · rw [if_neg hw] at h; rw [← Sum.inr.inj h]
        · rw [if_neg k2] at h
          by_cases k117 : kdT q i = 117
          · rw [if_pos k117] at h
            by_cases hw : 5 ≤ w
            · rw [if_pos hw] at h; cases h
            · rw [if_neg hw] at h
              cases h1 : pE q n 4 (w + 1) (enT q i) r (c ++ [30]) b with
              | inl F => rw [h1] at h; cases h
              | inr y => rw [h1] at h; rw [← Sum.inr.inj h]
          · rw [if_neg k117] at h
            by_cases k40 : kdT q i = 40
            · rw [if_pos k40] at h
              by_cases hw : 5 ≤ w
              · rw [if_pos hw] at h; cases h
              · rw [if_neg hw] at h
                cases h1 : pE q n 0 (w + 1) (enT q i) r (c ++ [28]) false with
                | inl F => rw [h1] at h; cases h
                | inr y =>
                  rw [h1] at h
                  have h' : (if kdT q y.1 = 41 then (.inr (enT q y.1, y.2.1, y.2.2.1 ++ [29], b) : uPR) else .inl (1 + 16 * bgT q y.1)) = .inr x := h
                  by_cases k41 : kdT q y.1 = 41
                  · rw [if_pos k41] at h'; rw [← Sum.inr.inj h']
                  · rw [if_neg k41] at h'; cases h'
            · rw [if_neg k40] at h
              by_cases hf : fcM q i = 0
              · rw [if_pos hf] at h; cases h
              · rw [if_neg hf] at h
                by_cases hw : 5 ≤ w
                · rw [if_pos hw] at h; cases h
                · rw [if_neg hw] at h; rw [← Sum.inr.inj h]
      · obtain ⟨m', rfl⟩ : ∃ m', m = m' + 5 := ⟨m - 5, by omega⟩
        rw [pE_lp (by omega)] at h
        by_cases hl : lvO (kdT q i) = m'
        · rw [if_pos hl] at h
          have hfl : flC m' b = b := by unfold flC; rw [decide_eq_false (by omega), decide_eq_false (by omega)]; rfl
          rw [hfl] at h
          cases h1 : pE q n (m' + 1) w (enT q i) r (c ++ [nI (opC (kdT q i))]) b with
          | inl F => rw [h1] at h; cases h
          | inr y =>
            rw [h1] at h
            have h' : (if m' = 1 then (.inr (y.1, y.2.1 ++ [-nI (kdT q i)], y.2.2.1, y.2.2.2) : uPR) else pE q n (m' + 5) w y.1 (y.2.1 ++ [-nI (kdT q i)]) y.2.2.1 y.2.2.2) = .inr x := h
            rw [if_neg (by omega)] at h'
            rw [ih (m' + 5) w _ _ _ _ x (by omega) h', ih (m' + 1) w _ _ _ _ y (by omega) h1]
        · rw [if_neg hl] at h; rw [← Sum.inr.inj h]
/-- what can't stand behind it -/
theorem pE_ex : ∀ (n m w i : Nat) (r c : List Int32) (b : Bool) (x : Nat × List Int32 × List Int32 × Bool), m < 4 → (pE q n m w i r c b = .inr x → exF m (kdT q x.1) x.2.2.2) ∧ (exF (m + 1) (kdT q i) b → pE q n (m + 5) w i r c b = .inr x → exF m (kdT q x.1) x.2.2.2) := by
  intro n
  induction n with
  | zero => intro m w i r c b x _; exact ⟨fun h => (by cases h), fun _ h => (by cases h)⟩
  | succ n ih =>
    intro m w i r c b x hm
    constructor
    · intro h
      rw [pE_lv hm] at h
      cases h1 : pE q n (m + 1) w i r c b with
      | inl F => rw [h1] at h; cases h
      | inr y =>
        rw [h1] at h
        refine (ih m w y.1 y.2.1 y.2.2.1 y.2.2.2 x hm).2 ?_ h
        by_cases e3 : m = 3
        · subst e3
          exact ⟨fun z => absurd z (by omega), fun z => absurd z (by omega), fun z => absurd z (by omega), fun z => absurd z (by omega)⟩
        · exact (ih (m + 1) w i r c b y (by omega)).1 h1
    · intro hx h
      rw [pE_lp hm] at h
      by_cases hl : lvO (kdT q i) = m
      · rw [if_pos hl] at h
        cases h1 : pE q n (m + 1) w (enT q i) r (c ++ [nI (opC (kdT q i))]) (flC m b) with
        | inl F => rw [h1] at h; cases h
        | inr y =>
          rw [h1] at h
          have h' : (if m = 1 then (.inr (y.1, y.2.1 ++ [-nI (kdT q i)], y.2.2.1, y.2.2.2) : uPR) else pE q n (m + 5) w y.1 (y.2.1 ++ [-nI (kdT q i)]) y.2.2.1 y.2.2.2) = .inr x := h
          have hy : exF (m + 1) (kdT q y.1) y.2.2.2 := by
            by_cases e3 : m = 3
            · subst e3
              exact ⟨fun z => absurd z (by omega), fun z => absurd z (by omega), fun z => absurd z (by omega), fun z => absurd z (by omega)⟩
            · exact (ih (m + 1) w _ _ _ _ y (by omega)).1 h1
          by_cases e1 : m = 1
          · rw [if_pos e1] at h'
            have := Sum.inr.inj h'
            subst this
            subst e1
            have hfl := pE_fl n 2 w _ _ _ _ y (Or.inl rfl) h1
            exact ⟨fun _ => hy.1 (by omega), fun _ => hy.2.1 (by omega), fun _ _ => hfl, fun z => absurd z (by omega)⟩
          · rw [if_neg e1] at h'
            exact (ih m w _ _ _ _ x hm).2 hy h'
      · rw [if_neg hl] at h
        have := Sum.inr.inj h
        subst this
        refine ⟨fun z => ?_, fun z => ?_, fun z1 z2 => ?_, fun z => ?_⟩
        · by_cases e : m = 3
          · rw [e] at hl; exact hl
          · exact hx.1 (by omega)
        · by_cases e : m = 2
          · rw [e] at hl; exact hl
          · exact hx.2.1 (by omega)
        · by_cases e : m = 1
          · rw [e] at hl; exact absurd z2 hl
          · exact hx.2.2.1 (by omega) z2
        · rw [z] at hl; exact hl
end URPX
section UREM
variable {s : List (Nat ⊕ (Nat × Nat))} {f f' f1 f2 : Nat → Nat → Int32} {g g' : Nat → Nat → Int64} {R : Nat → Nat → Option Nat} {d i k w : Nat} {q : Nat × (Nat → Nat)} {c : List Int32} {v : Int32} {O : Nat → Nat} {B : Nat → Bool}
theorem TF2_TG : ∀ x k, TF2 x k → TG x k := fun x k z => by unfold TF2 at z; unfold TG; omega
theorem lawM.fr {T : Nat → Nat → Prop} (h : lawM f c) (t : eqT T f f') (h1 : ¬ T 208 21) (h2 : ∀ k, ¬ T 220 k) : lawM f' c := ⟨by rw [t _ _ h1, h.1], fun k hk => by rw [t _ _ (h2 _), h.2 k hk]⟩
theorem opnS.fr {T : Nat → Nat → Prop} (h : opnS f w O) (t : eqT T f f') (h1 : ∀ k, ¬ T 221 k) : opnS f' w O := fun e h2 h3 => by rw [t _ _ (h1 e)]; exact h e h2 h3
theorem cmS.fr {T : Nat → Nat → Prop} (h : cmS f w B) (t : eqT T f f') (h1 : ∀ k, ¬ T 222 k) : cmS f' w B := fun e h2 => by rw [t _ _ (h1 e)]; exact h e h2
theorem opnS.le {w' : Nat} (h : opnS f w O) (hw : w' ≤ w) : opnS f w' O := fun e h1 h2 => h e h1 (by omega)
theorem cmS.le {w' : Nat} (h : cmS f w B) (hw : w' ≤ w) : cmS f w' B := fun e h1 => h e (by omega)
/-- a token on, in such a state -/
theorem m_nxS (hM : oModel s R 208) (h : mSt f g q i c w O B) : ∃ f' g', ur_call ur_G (d + 2) 145 [.ref 208] (s, f, g, R) = some (0, (s, f', g', R)) ∧ mSt f' g' q (enT q i) c w O B ∧ eqT TG f f' ∧ eqL GF2 g g' := by
  obtain ⟨f1, g1, c1, c2, c3, c4⟩ := m_nx (d := d) hM h.1
  exact ⟨f1, g1, c1, ⟨c2, h.2.1.fr c3 (by unfold TF2; omega) (fun k z => by unfold TF2 at z; omega), h.2.2.1.fr c3 (fun k z => by unfold TF2 at z; omega), h.2.2.2.fr c3 (fun k z => by unfold TF2 at z; omega)⟩, c3.mono TF2_TG, c4⟩
theorem m_putS (hM : oModel s R 208) (h : mSt f g q i c w O B) (hc : c.length < 1000) : ∃ f', ur_call ur_G (d + 1) 149 [.ref 208, .int v] (s, f, g, R) = some (0, (s, f', g, R)) ∧ mSt f' g q i (c ++ [v]) w O B ∧ eqT TG f f' := by
  obtain ⟨h1, h2, h3, h4⟩ := h
  have t : eqT (fun a k => (a = 208 ∧ k = 21) ∨ (a = 220 ∧ 1000 ≤ k)) f (ur_u (ur_u f 220 (1000 + c.length) v) 208 21 (nI (1000 + c.length + 1))) := (eqT_u (Or.inr ⟨rfl, by omega⟩)).u (Or.inl ⟨rfl, rfl⟩)
  refine ⟨ur_u (ur_u f 220 (1000 + c.length) v) 208 21 (nI (1000 + c.length + 1)), ur_cl hM.rcv rfl (e_X10_puts_0 _ _ _ ?_), ⟨h1.fr t (eqL.refl (T := fun _ _ => False)) (fun k z1 z2 z => by omega) (fun k z => by omega) (fun z => z), ⟨?_, fun k hk => ?_⟩, h3.fr t (fun k z => by omega), h4.fr t (fun k z => by omega)⟩, t.mono (fun a k z => by unfold TG; omega)⟩
  · have w1 : ur_wI (s, f, g, R) (208 + 12) 0 (nI (1000 + c.length)) v = some (s, ur_u f (208 + 12) (1000 + c.length) v, g, R) := hM.w12 (by omega)
    simp only [hM.r20, hM.I, hM.pI, Option.bind_some, h2.1, w1, ur_ua (show (208 : Nat) ≠ 208 + 12 by decide), nI_1]
  · rw [ur_us]
    simp only [List.length_append, List.length_cons, List.length_nil]
    rfl
  · rw [ur_ua (by decide)]
    by_cases e : k = c.length
    · rw [e, ur_us, li_app_eq]
    · have hk' : k < c.length := by
        simp only [List.length_append, List.length_cons, List.length_nil] at hk
        omega
      rw [ur_un (by omega), h2.2 k hk', li_app_lt c v hk']
theorem m_aB14 (hM : oModel s R 208) (hk : k < 7) : ur_aB (s, f, g, R) (208 + 14) (nI k) = some (f (208 + 14) k) := by
  unfold ur_aB
  rw [decide_eq_true (show 208 + 14 < ur_base by unfold ur_base; omega), cond_true, hM.a14 hk]
/-- the nots gone, by 152 and by 379 -/
theorem m_pop (hM : oModel s R 208) : ∀ (w : Nat), w < 7 → opnS f w O → (∀ rr, ((ur_call ur_G (d + 2) 145 [.ref 208] (s, f, g, R)).bind fun q1 => ur_at ur_G (d + 2) 151 (11, [some (.ref 208), some (.int (nI (bsD O w))), some (.int 0), none, none, none], [], q1.2)) = some rr → mAt s R d 152 w 0 f g = some rr) ∧ (∀ rr, ((ur_call ur_G (d + 2) 145 [.ref 208] (s, f, g, R)).bind fun q1 => ur_at ur_G (d + 2) 151 (11, [some (.ref 208), some (.int (nI (bsD O w))), some (.int 0), none, none, none], [], q1.2)) = some rr → mAt s R d 379 w 0 f g = some rr) := by
  intro w
  induction w with
  | zero =>
    intro _ _
    constructor
    · intro rr hr
      refine e_X10_reads_152 _ _ _ _ ?_
      rw [show decide (nI 0 ≤ (0 : Int32)) = true from by decide, cond_true]
      exact hr
    · intro rr hr
      refine e_X10_reads_379 _ _ _ _ ?_
      rw [show decide (nI 0 ≤ (0 : Int32)) = true from by decide, cond_true]
      exact hr
  | succ w ih =>
    intro hw ho
    obtain ⟨o1, o2⟩ := ho (w + 1) (by omega) (Nat.le_refl _)
    obtain ⟨i1, i2⟩ := ih (by omega) (ho.le (by omega))
    have n0 : decide (nI (w + 1) ≤ (0 : Int32)) = false := decide_eq_false (nI_nle (by omega) (by omega))
    have a13 : ur_aI (s, f, g, R) (208 + 13) 0 (nI (w + 1)) = some (f (208 + 13) (w + 1)) := hM.a13 hw
    have e13 : f (208 + 13) (w + 1) = nI (O (w + 1)) := o1
    have eb : bsD O (w + 1) = bif decide (O (w + 1) = 1) then bsD O w else w + 1 := rfl
    rw [eb]
    have pm : nI (w + 1) + (-1) = nI w := pk_m1 w
    rcases o2 with e | e
    · rw [e, decide_eq_true rfl, cond_true]
      constructor
      · intro rr hr
        refine e_X10_reads_152 _ _ _ _ ?_
        simp only [n0, cond_false, hM.r22, Option.bind_some, a13, e13, e, show decide (nI 1 ≠ (1 : Int32)) = false from by decide, pm]
        exact i1 rr hr
      · intro rr hr
        refine e_X10_reads_379 _ _ _ _ ?_
        simp only [n0, cond_false, hM.r22, Option.bind_some, a13, e13, e, show decide (nI 1 ≠ (1 : Int32)) = false from by decide, pm]
        exact i2 rr hr
    · rw [e, decide_eq_false (by decide), cond_false]
      constructor
      · intro rr hr
        refine e_X10_reads_152 _ _ _ _ ?_
        simp only [n0, cond_false, hM.r22, Option.bind_some, a13, e13, e, show decide (nI 2 ≠ (1 : Int32)) = true from by decide, cond_true]
        exact hr
      · intro rr hr
        refine e_X10_reads_379 _ _ _ _ ?_
        simp only [n0, cond_false, hM.r22, Option.bind_some, a13, e13, e, show decide (nI 2 ≠ (1 : Int32)) = true from by decide, cond_true]
        exact hr
end UREM

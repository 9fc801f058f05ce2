/-! EVENING -/
section URJE
variable {s : List (Nat ⊕ (Nat × Nat))} {f f' l V : Nat → Nat → Int32} {g g' : Nat → Nat → Int64} {R R' : Nat → Nat → Option Nat} {L L' K K' A B N P d : Nat} {E : Int32 → Int32 → Int32 → Int32 → Int32} {q : Nat × (Nat → Nat)} {rn pn : Nat → List Nat}
theorem pEv_ok (h8 : N ≤ 8) (h5 : P ≤ 5) : ∀ (n i : Nat) (ls : List uL3), q.1 - i < n → i ≤ q.1 → ls.length ≤ 40 → (∀ j, j < ls.length → okL N P (ls.getD j (0, 0, 0))) → (∀ F, pEv q rn N pn P n i ls = .inl F → okF q F) ∧ (∀ z, pEv q rn N pn P n i ls = .inr z → z.length ≤ 40 ∧ ∀ j, j < z.length → okL N P (z.getD j (0, 0, 0)))
  | 0, _, _, hn, _, _, _ => absurd hn (Nat.not_lt_zero _)
  | n + 1, i, ls, hn, hi, h40, hl => by
    show (∀ F, (if kdT q i = 1 then .inr ls else evB (pL1 q rn N pn P ls.length i) (fun x => pEv q rn N pn P n x.1 (ls ++ [x.2]))) = .inl F → okF q F) ∧ (∀ z, (if kdT q i = 1 then .inr ls else evB (pL1 q rn N pn P ls.length i) (fun x => pEv q rn N pn P n x.1 (ls ++ [x.2]))) = .inr z → _)
    by_cases h1 : kdT q i = 1
    · rw [if_pos h1]
      exact ⟨fun F y => (by cases y), fun z y => (by cases y; exact ⟨h40, hl⟩)⟩
    · rw [if_neg h1]
      obtain ⟨o1, o2⟩ := pL1_ok (q := q) (rn := rn) (pn := pn) (n := ls.length) h8 h5 hi
      revert o1 o2
      cases pL1 q rn N pn P ls.length i with
      | inl F => exact fun _ o2 => ⟨fun F' y => (by cases y; exact o2 F rfl), fun z y => (by cases y)⟩
      | inr x =>
        intro o1 _
        obtain ⟨a1, a2, a3, a4⟩ := o1 x rfl
        have ll : (ls ++ [x.2]).length = ls.length + 1 := by simp
        refine pEv_ok h8 h5 n x.1 (ls ++ [x.2]) (by omega) a2 (by omega) (fun j hj => ?_)
        by_cases e : j < ls.length
        · rw [List.getD_eq_getElem?_getD, List.getElem?_append_left e, ← List.getD_eq_getElem?_getD]
          exact hl j e
        · have ej : j = ls.length := by omega
          have e' : (ls ++ [x.2]).getD j (0, 0, 0) = x.2 := by
            rw [List.getD_eq_getElem?_getD, ej, List.getElem?_append_right (Nat.le_refl _), Nat.sub_self]; rfl
          rw [e']
          exact a3
def TJE (K' : Nat) : Nat → Nat → Prop := fun a k => (a = 1 ∧ k ≤ 7) ∨ (K' ≤ a ∧ a < K' + 4) ∨ (a = 208 ∧ k ≤ 34) ∨ (a = 233 ∧ (k = 5 ∨ k = 0)) ∨ (234 ≤ a ∧ a ≤ 236 ∧ (200 ≤ k ∨ k < 40))
theorem j_evf (h : JV s R f g L L' K K' l V N P E) (hX : oX s R' L L' A B) (t : eqT (TJE K') f f') (tg : eqL (fun a k => GF1 a k ∨ GF2 a k) g g') (ht : tpJ f') (hs : scR f' A 0 N P) : JV s R' f' g' L L' A B l V N P E := by
  obtain ⟨⟨h1, h2, h3, h4⟩, h5, h6, h7, h8, h9, h10⟩ := h
  have hL := h1.eL
  have hK := h1.eK
  have hP := h4.p5
  have c2 : cX s R f' 33 L l V N P := h2.fr t (h2.bn.fr t (fun i k hi z => by unfold TJE at z; omega)) (fun a k a1 a2 z => by unfold TJE at z; omega)
  have m4 : cM s R f' 208 l V N P E := h4.fr t (fun a k a1 a2 z => by unfold TJE at z; omega) (h4.hn.eqv hP reqv.refl (fun k hk => t _ _ (by unfold TJE; omega)))
  have ng : ∀ a k, a ≠ 1 → a ≠ 208 → g' a k = g a k := fun a k n1 n2 => tg a k (by unfold GF1 GF2; omega)
  refine ⟨⟨hX, ⟨hX.now, hX.land, c2.2.2⟩, h3, ⟨hX.M, m4.2⟩⟩, ⟨fun r hr => ?_, fun p hp => ?_⟩, ht, hs, h8.fr t (fun a k hk z => ?_), h9.fr hP t (fun a k hk z => ?_), fun i hi => ?_⟩
  · rw [ng _ _ (by omega) (by omega), ng _ _ (by omega) (by omega)]; exact h5.1 r hr
  · rw [ng _ _ (by omega) (by omega), ng _ _ (by omega) (by omega)]; exact h5.2 p hp
  · unfold TJE at z; omega
  · unfold TJE at z; omega
  · obtain ⟨c, c1, c2, c3⟩ := h10 i hi
    refine ⟨c, ?_, ?_, fun hc => ?_⟩
    · rw [t _ 3 (by unfold TJE; omega)]; exact c1
    · rw [t 246 i (by unfold TJE; omega)]; exact c2
    · obtain ⟨d1, d2, d3⟩ := c3 hc
      exact ⟨d1.fr hP t (fun b k hb z => by unfold TJE at z; omega), d2.fr t (fun b k hb z => by unfold TJE at z; omega), d3.fr t (fun b k hb z => by unfold TJE at z; omega)⟩
theorem j_evening (h : JV s R f g L L' K K' l V N P E) (hS : s.length ≤ 1000) : JC s R f g (d + 60) 85 178 [] := by
  obtain ⟨q, q1, q2, q3⟩ := tpJ.ch h.2.2.1
  have hch : ∀ k, k < q.1 → q.2 k < 128 := fun k hk => okC_lt (q3 k hk)
  obtain ⟨rn, pn, n1, n2⟩ := nmJ.ch h.2.1
  have hX := h.oX
  have hO := hX.M
  have hL := hX.eL
  have hK := hX.eK
  have h8 := h.r8
  have h5 := h.p5
  have hq := q1.2.1
  obtain ⟨v, f1, g1, a1, a2, a3, a4⟩ := x_even (d := d + 48) (rn := rn) (pn := pn) hX.tape hS hX.land hX.scrd (by omega) (by omega) h8 h5 (show tpX f q from ⟨q1, hch⟩) h.cX.er (fun r hr => ⟨(n1 r hr).1, (n1 r hr).2.1⟩) h.cX.ep (fun r hr => ⟨(n2 r hr).1, (n2 r hr).2.1⟩)
  have a1' : ur_call ur_G (d + 59) 64 [.ref K', .ref 1, .ref L] (s, f, g, R) = some (v, (s, f1, g1, R)) := a1
  obtain ⟨f2, hf2⟩ : ∃ f2, f2 = ur_u f1 1 1 0 := ⟨_, rfl⟩
  have t2 : eqT (fun a k => TKa K' a k ∨ (a = 1 ∧ k = 1)) f f2 := by
    have ta : eqT (fun a k => TKa K' a k ∨ (a = 1 ∧ k = 1)) f f1 := a3.mono (fun a k y => Or.inl y)
    rw [hf2]
    exact ta.u (Or.inr ⟨rfl, rfl⟩)
  have hi : ∀ a k, 207 < a → f2 a k = f a k := fun a k ha => t2 _ _ (by unfold TKa; omega)
  have gi : ∀ a k, 207 < a → g1 a k = g a k := fun a k ha => a4 _ _ (by unfold GF1; omega)
  have q22 : tpC f2 208 209 1 q := ⟨(hi _ _ (by decide)).trans q2.1, q2.2.1, fun k hk => (hi _ _ (by decide)).trans (q2.2.2 k hk)⟩
  have hrl := h.cM.2.1.2.1
  have en : ∀ R2, oModel s R2 208 → ∃ v f' g', ur_call ur_G (d + 60) 178 [.ref 208] (s, f2, g1, R2) = some (v, (s, f', g', R2)) ∧ mEv f' (pEv q rn N pn P (q.1 + 1) 0 []) v ∧ (evK (pEv q rn N pn P (q.1 + 1) 0 []) = false → eqT TEb f2 f') ∧ eqT TEc f2 f' ∧ eqL GF2 g1 g' ∧ f' 208 1 = 0 := fun R2 hO2 => m_even (d := d + 55) (rn := rn) (pn := pn) hO2 h8 h5 q22 hch ((hi _ _ (by decide)).trans hrl.2.2.1) (fun r hr => ⟨(n1 r hr).1, by rw [gi _ _ (by decide)]; exact (n1 r hr).2.2⟩) ((hi _ _ (by decide)).trans hrl.2.2.2.1) (fun r hr => ⟨(n2 r hr).1, by rw [gi _ _ (by decide)]; exact (n2 r hr).2.2⟩)
  have ok := pEv_ok (q := q) (rn := rn) (pn := pn) h8 h5 (q.1 + 1) 0 [] (by omega) (Nat.zero_le _) (Nat.zero_le _) (fun j hj => absurd hj (Nat.not_lt_zero j))
  have fin : ∀ R2 f3 g3 A B, oX s R2 L L' A B → eqT TEc f2 f3 → eqL GF2 g1 g3 → f3 208 1 = 0 → scR f3 A 0 N P → JV s R2 f3 g3 L L' A B l V N P E := fun R2 f3 g3 A B hX2 u1 u2 u3 u4 => by
    refine j_evf h hX2 ((t2.mono (fun a k y => ?_)).trans (u1.mono (fun a k y => ?_))) ((a4.mono (fun a k y => Or.inl y)).trans (u2.mono (fun a k y => Or.inr y))) ⟨0, by decide, ?_, u3, fun k hk => absurd hk (Nat.not_lt_zero k)⟩ u4
    · unfold TKa at y; unfold TJE; omega
    · unfold TEc at y; unfold TJE; omega
    · rw [u1 _ _ (by unfold TEc; omega), hf2]; exact ur_us
  revert a2 en ok
  cases pEv q rn N pn P (q.1 + 1) 0 [] with
  | inl F =>
    intro a2 en ok
    have ev : v = nI F := a2
    subst ev
    have hF : okF q F := ok.1 F rfl
    unfold okF at hF
    obtain ⟨w, f3, g3, b1, b2, b3, b4, b5, b6⟩ := en R hO
    have ew : w = nI F := b2
    subst ew
    have b3' := b3 rfl
    have nz : decide (nI F = (0 : Int32)) = false := (d_eq (b := 0) (by omega) (by decide)).trans (decide_eq_false (by omega))
    refine ⟨nI F, f2, g1, R, f3, g3, R, ur_cl hX.rcv rfl (e_X9_evening_0 _ _ ?_), b1, (fin R f3 g3 K K' hX b4 b5 b6 ?_).inv⟩
    · simp only [hX.r4, hX.r0, hX.r1, Option.bind_some, a1', hX.tape.pI, ← hf2, nz, cond_false]
    · have tt : eqT (fun a k => (TKa K' a k ∨ (a = 1 ∧ k = 1)) ∨ TEb a k) f f3 := (t2.mono (fun a k y => Or.inl y)).trans (b3'.mono (fun a k y => Or.inr y))
      exact h.2.2.2.1.fr tt (fun a k hk z => by unfold TKa TEb at z; omega)
  | inr ls =>
    intro a2 en ok
    obtain ⟨ev, xs⟩ : v = 0 ∧ xSc f1 K' ls := a2
    subst ev
    obtain ⟨o1, o2⟩ := ok.2 ls rfl
    obtain ⟨R2, hR2⟩ : ∃ R2, R2 = ur_u (ur_u R 0 3 (some K')) 0 4 (some K) := ⟨_, rfl⟩
    have hX2 : oX s R2 L L' K' K := by rw [hR2]; exact hX.swK
    obtain ⟨w, f3, g3, b1, b2, b3, b4, b5, b6⟩ := en R2 hX2.M
    obtain ⟨ew, ms⟩ : w = 0 ∧ mSc f3 0 ls := b2
    subst ew
    have x3 : xSc f3 K' ls := by
      have lo : ∀ a k, a < 208 → a ≠ 1 → f3 a k = f1 a k := fun a k ha h1 => by
        rw [b4 _ _ (by unfold TEc; omega), hf2, ur_ua h1]
      refine ⟨(lo _ _ (by omega) (by omega)).trans xs.1, fun i hi => ?_⟩
      rw [lo _ _ (by omega) (by omega), lo _ _ (by omega) (by omega), lo _ _ (by omega) (by omega)]
      exact xs.2 i hi
    have p1 : ur_pR (s, f2, g1, R) 0 9 3 K' = some (s, f2, g1, ur_u R 0 3 (some K')) := vpR hX.1.1 (by unfold ur_base; omega)
    have p2 : ur_pR (s, f2, g1, ur_u R 0 3 (some K')) 0 9 4 K = some (s, f2, g1, R2) := by rw [hR2]; exact vpR hX.1.1 (by unfold ur_base; omega)
    refine ⟨0, f2, g1, R2, f3, g3, R2, ur_cl hX.rcv rfl (e_X9_evening_0 _ _ ?_), b1, (fin R2 f3 g3 K' K hX2 b4 b5 b6 (sc_both x3 ms o1 o2)).inv⟩
    simp only [hX.r4, hX.r0, hX.r1, hX.r3, Option.bind_some, a1', hX.tape.pI, ← hf2, e00, decide_true, cond_true, p1, p2]
end URJE

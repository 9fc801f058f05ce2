/-! WHAT HOLDS BETWEEN CALLS: class and reference in one memory -/
def wN (B : Nat) (ws : List Nat) : Nat := ws.foldl (fun a c => a * B + c) 0
/-- a word: its number by 32, by 27 -/
def nmR (x y : Int64) : Prop := ∃ ws : List Nat, ws.length ≤ 8 ∧ (∀ c ∈ ws, 1 ≤ c ∧ c ≤ 26) ∧ x = Int64.ofNat (wN 32 ws) ∧ y = Int64.ofNat (wN 27 ws)
def nmJ (g : Nat → Nat → Int64) (L N P : Nat) : Prop := (∀ r, r < N → nmR (g (L + 1) r) (g 211 r)) ∧ (∀ p, p < P → nmR (g (L + 4) p) (g 214 p))
def tpJ (f : Nat → Nat → Int32) : Prop := ∃ t, t ≤ 1000 ∧ f 1 1 = nI t ∧ f 208 1 = nI t ∧ ∀ k, k < t → ∃ c, (c = 10 ∨ (32 ≤ c ∧ c ≤ 126)) ∧ f 2 k = nI c ∧ f 209 k = nI c
def scR (f : Nat → Nat → Int32) (K i0 N P : Nat) : Prop := ∃ z, z ≤ 40 ∧ f K 3 = nI z ∧ f 233 i0 = nI z ∧ ∀ i, i < z → ∃ k p j, f (K + 1) i = nI (108 + k) ∧ f 234 (40 * i0 + i) = nI k ∧ lnX N P k (f (K + 2) i) (f (K + 3) i) p j ∧ lnX N P k (f 235 (40 * i0 + i)) (f 236 (40 * i0 + i)) p j
def seR (f : Nat → Nat → Int32) (a i0 P : Nat) : Prop := ∃ z, z ≤ 8 ∧ f a 3 = nI z ∧ f 237 i0 = nI z ∧ ∀ i, i < z → ∃ p k, p < P ∧ f (a + 1) i = nI p ∧ f 238 (8 * i0 + i) = nI p ∧ 1 ≤ k ∧ k ≤ 30 ∧ f (a + 2) i = nI k ∧ f 239 (8 * i0 + i) = nI k ∧ f 240 (8 * i0 + i) = ur_b (bt (f a 2) i)
def paR (f : Nat → Nat → Int32) (U : Int32) (N P : Nat) : Prop := ∃ e z, e < 16 ∧ z ≤ 16 ∧ f 0 9 = nI e ∧ f 0 10 = nI z ∧ f 208 50 = nI z ∧ ∀ i, i < z → rN (blk f (56 + 6 * ((e + 16 - z + i) % 16))) U N P (fun k => f 245 (29 * i + k))
def maR (f : Nat → Nat → Int32) (U : Int32) (N P : Nat) : Prop := ∀ i, i < 4 → ∃ c : Bool, f (152 + 14 * i) 3 = ur_b c ∧ f 246 i = ur_b c ∧ (c = true → rN (blk f (153 + 14 * i)) U N P (fun k => f 244 (29 * i + k)) ∧ scR f (159 + 14 * i) (1 + i) N P ∧ seR f (163 + 14 * i) (1 + i) P)
def JV (s : List (Nat ⊕ (Nat × Nat))) (R : Nat → Nat → Option Nat) (f : Nat → Nat → Int32) (g : Nat → Nat → Int64) (L L' K K' : Nat) (l V : Nat → Nat → Int32) (N P : Nat) (E : Int32 → Int32 → Int32 → Int32 → Int32) : Prop :=
  (oX s R L L' K K' ∧ cX s R f 33 L l V N P ∧ lwX l E ∧ cM s R f 208 l V N P E) ∧ nmJ g L N P ∧ tpJ f ∧ scR f K 0 N P ∧ seR f 45 0 P ∧ paR f (l 0 9) N P ∧ maR f (l 0 9) N P
def QX : Nat → Nat → Prop := fun a k => SX a k ∨ SR 208 a k
section URJ
variable {s : List (Nat ⊕ (Nat × Nat))} {f f' f1 f2 l V V' : Nat → Nat → Int32} {g : Nat → Nat → Int64} {R : Nat → Nat → Option Nat} {L L' K K' d j p P N i0 a0 k : Nat} {U r x y : Int32} {E : Int32 → Int32 → Int32 → Int32 → Int32} {T : Nat → Nat → Prop}
theorem tpJ.fr (h : tpJ f) (hT : eqT T f f') (hd : ∀ a k, ((a = 1 ∧ k = 1) ∨ a = 2 ∨ (a = 208 ∧ k = 1) ∨ a = 209) → ¬ T a k) : tpJ f' := by
  obtain ⟨t, h1, h2, h3, h4⟩ := h
  refine ⟨t, h1, ?_, ?_, fun k hk => ?_⟩
  · rw [hT 1 1 (hd _ _ (by omega)), h2]
  · rw [hT 208 1 (hd _ _ (by omega)), h3]
  · obtain ⟨c, c1, c2, c3⟩ := h4 k hk
    exact ⟨c, c1, by rw [hT 2 k (hd _ _ (by omega)), c2], by rw [hT 209 k (hd _ _ (by omega)), c3]⟩
theorem scR.fr (h : scR f K i0 N P) (hT : eqT T f f') (hd : ∀ a k, ((K ≤ a ∧ a < K + 4) ∨ (a = 233 ∧ k = i0) ∨ (234 ≤ a ∧ a ≤ 236 ∧ 40 * i0 ≤ k ∧ k < 40 * i0 + 40)) → ¬ T a k) : scR f' K i0 N P := by
  obtain ⟨z, h1, h2, h3, h4⟩ := h
  refine ⟨z, h1, ?_, ?_, fun i hi => ?_⟩
  · rw [hT K 3 (hd _ _ (by omega)), h2]
  · rw [hT 233 i0 (hd _ _ (by omega)), h3]
  · obtain ⟨k, p, j, c1, c2, c3, c4⟩ := h4 i hi
    refine ⟨k, p, j, ?_, ?_, ?_, ?_⟩
    · rw [hT (K + 1) i (hd _ _ (by omega)), c1]
    · rw [hT 234 (40 * i0 + i) (hd _ _ (by omega)), c2]
    · rw [hT (K + 2) i (hd _ _ (by omega)), hT (K + 3) i (hd _ _ (by omega))]; exact c3
    · rw [hT 235 (40 * i0 + i) (hd _ _ (by omega)), hT 236 (40 * i0 + i) (hd _ _ (by omega))]; exact c4
theorem seR.fr (h : seR f a0 i0 P) (hT : eqT T f f') (hd : ∀ a k, ((a0 ≤ a ∧ a < a0 + 3) ∨ (a = 237 ∧ k = i0) ∨ (238 ≤ a ∧ a ≤ 240 ∧ 8 * i0 ≤ k ∧ k < 8 * i0 + 8)) → ¬ T a k) : seR f' a0 i0 P := by
  obtain ⟨z, h1, h2, h3, h4⟩ := h
  refine ⟨z, h1, ?_, ?_, fun i hi => ?_⟩
  · rw [hT a0 3 (hd _ _ (by omega)), h2]
  · rw [hT 237 i0 (hd _ _ (by omega)), h3]
  · obtain ⟨p, k, c1, c2, c3, c4, c5, c6, c7, c8⟩ := h4 i hi
    refine ⟨p, k, c1, ?_, ?_, c4, c5, ?_, ?_, ?_⟩
    · rw [hT (a0 + 1) i (hd _ _ (by omega)), c2]
    · rw [hT 238 (8 * i0 + i) (hd _ _ (by omega)), c3]
    · rw [hT (a0 + 2) i (hd _ _ (by omega)), c6]
    · rw [hT 239 (8 * i0 + i) (hd _ _ (by omega)), c7]
    · rw [hT 240 (8 * i0 + i) (hd _ _ (by omega)), hT a0 2 (hd _ _ (by omega)), c8]
theorem rN.fr {n a i : Nat} (hP : P ≤ 5) (h : rN (blk f n) U N P (fun k => f a (29 * i + k))) (hT : eqT T f f') (hd : ∀ b k, ((n ≤ b ∧ b < n + 6) ∨ (b = a ∧ 29 * i ≤ k ∧ k < 29 * i + 29)) → ¬ T b k) : rN (blk f' n) U N P (fun k => f' a (29 * i + k)) := by
  refine h.eqv hP ⟨fun i k h1 h2 h3 => hT _ _ (hd _ _ (by omega)), fun k h1 h2 => hT _ _ (hd _ _ (by omega))⟩ (fun k hk => hT _ _ (hd _ _ (by omega)))
theorem paR.fr (hP : P ≤ 5) (h : paR f U N P) (hT : eqT T f f') (hd : ∀ a k, ((a = 0 ∧ (k = 9 ∨ k = 10)) ∨ (a = 208 ∧ k = 50) ∨ (56 ≤ a ∧ a < 152) ∨ a = 245) → ¬ T a k) : paR f' U N P := by
  obtain ⟨e, z, h1, h2, h3, h4, h5, h6⟩ := h
  refine ⟨e, z, h1, h2, ?_, ?_, ?_, fun i hi => ?_⟩
  · rw [hT 0 9 (hd _ _ (by omega)), h3]
  · rw [hT 0 10 (hd _ _ (by omega)), h4]
  · rw [hT 208 50 (hd _ _ (by omega)), h5]
  · exact (h6 i hi).fr hP hT (fun b k hb => hd _ _ (by omega))
theorem maR.fr (hP : P ≤ 5) (h : maR f U N P) (hT : eqT T f f') (hd : ∀ a k, ((152 ≤ a ∧ a < 208) ∨ a = 246 ∨ a = 244 ∨ (a = 233 ∧ 1 ≤ k) ∨ (234 ≤ a ∧ a ≤ 236 ∧ 40 ≤ k) ∨ (a = 237 ∧ 1 ≤ k) ∨ (238 ≤ a ∧ a ≤ 240 ∧ 8 ≤ k)) → ¬ T a k) : maR f' U N P := by
  intro i hi
  obtain ⟨c, c1, c2, c3⟩ := h i hi
  refine ⟨c, ?_, ?_, fun hc => ?_⟩
  · rw [hT _ 3 (hd _ _ (by omega)), c1]
  · rw [hT 246 i (hd _ _ (by omega)), c2]
  · obtain ⟨d1, d2, d3⟩ := c3 hc
    exact ⟨d1.fr hP hT (fun b k hb => hd _ _ (by omega)), d2.fr hT (fun b k hb => hd _ _ (by omega)), d3.fr hT (fun b k hb => hd _ _ (by omega))⟩
theorem JV.oX (h : JV s R f g L L' K K' l V N P E) : oX s R L L' K K' := h.1.1
theorem JV.cX (h : JV s R f g L L' K K' l V N P E) : cX s R f 33 L l V N P := h.1.2.1
theorem JV.lw (h : JV s R f g L L' K K' l V N P E) : lwX l E := h.1.2.2.1
theorem JV.cM (h : JV s R f g L L' K K' l V N P E) : cM s R f 208 l V N P E := h.1.2.2.2
theorem JV.wf (h : JV s R f g L L' K K' l V N P E) : wfV l V N P := ⟨f, 208, _, h.cM.hl, h.cM.hn⟩
theorem JV.xC (h : JV s R f g L L' K K' l V N P E) : xC s R f L L' K K' l V N P E := ⟨h.oX, h.cX, h.lw, h.wf⟩
theorem JV.r8 (h : JV s R f g L L' K K' l V N P E) : N ≤ 8 := h.cM.r8
theorem JV.p5 (h : JV s R f g L L' K K' l V N P E) : P ≤ 5 := h.cM.p5
theorem cM.sx (h : cM s R f 208 l V N P E) (t : eqT SX f f') : cM s R f' 208 l V N P E := by
  refine h.fr t (fun a k h1 h2 z => by unfold SX TL at z; omega) ?_
  rw [t.row (fun k z => by unfold SX TL at z; omega)]
  exact h.hn
theorem cM.eqv (h : cM s R f 208 l V N P E) (hv : reqv V V') : cM s R f 208 l V' N P E := ⟨h.1, h.2.1, h.hn.eqv h.p5 hv (fun _ _ => rfl), h.2.2.2⟩
theorem QX_x (t : eqT SX f f1) (t' : eqT (SR 208) f1 f2) : eqT QX f f2 := (t.mono (fun _ _ z => Or.inl z)).trans (t'.mono (fun _ _ z => Or.inr z))
theorem JV.q (h : JV s R f g L L' K K' l V N P E) (t : eqT QX f f') : JV s R f' g L L' K K' l V N P E := by
  obtain ⟨⟨h1, h2, h3, h4⟩, h5, h6, h7, h8, h9, h10⟩ := h
  have hL := h1.eL
  have hK := h1.eK
  have hP := h4.p5
  have no : ∀ a k, QX a k → (39 ≤ a ∧ a < 45) ∨ (a = 11 ∧ k = 3) ∨ a = 13 ∨ (a = 22 ∧ k = 3) ∨ a = 24 ∨ (50 ≤ a ∧ a < 54) ∨ a = 55 ∨ (a = 208 ∧ (k = 0 ∨ k = 53)) ∨ (223 ≤ a ∧ a < 233) ∨ (a = 241 ∧ 29 ≤ k) ∨ a = 242 ∨ a = 243 ∨ (247 ≤ a ∧ a < 251) := fun a k z => by
    unfold QX SX SR TL at z
    omega
  refine ⟨⟨h1, h2.fr t (h2.bn.fr t (fun i k hi z => ?_)) (fun a k a1 a2 z => ?_), h3, h4.fr t (fun a k a1 a2 z => ?_) (h4.hn.eqv hP reqv.refl (fun k hk => t _ _ (fun z => ?_)))⟩, h5, h6.fr t (fun a k hk z => ?_), h7.fr t (fun a k hk z => ?_), h8.fr t (fun a k hk z => ?_), h9.fr hP t (fun a k hk z => ?_), h10.fr hP t (fun a k hk z => ?_)⟩ <;> have := no _ _ z <;> (try unfold TL) <;> omega
end URJ

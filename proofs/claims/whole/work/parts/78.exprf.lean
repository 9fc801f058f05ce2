/-! THE E: the reference, its loop by fuel -/
theorem upA_id {B : Nat → Bool} {k : Nat} : upA B k (B k) = B := by
  funext e
  unfold upA
  by_cases h : e = k
  · rw [if_pos h, h]
  · rw [if_neg h]
theorem upA_uu {B : Nat → Bool} {k : Nat} {x y : Bool} : upA (upA B k x) k y = upA B k y := by
  funext e
  unfold upA
  by_cases h : e = k
  · rw [if_pos h, if_pos h]
  · rw [if_neg h, if_neg h, if_neg h]
def mPA (s : List (Nat ⊕ (Nat × Nat))) (R : Nat → Nat → Option Nat) (q : Nat × (Nat → Nat)) (n : Nat) : Prop := ∀ (d w i : Nat) (r c : List Int32) (b : Bool) (f : Nat → Nat → Int32) (g : Nat → Nat → Int64) (O : Nat → Nat) (B : Nat → Bool), w ≤ 5 → 10 * (q.1 - i) < n → mSt f g q i c w O B → c.length ≤ i → mER s R q d w 1 f g (bsD O w) O B false (pE q n 4 w i r c b)
def mLA (s : List (Nat ⊕ (Nat × Nat))) (R : Nat → Nat → Option Nat) (q : Nat × (Nat → Nat)) (n : Nat) : Prop := ∀ (d m w i : Nat) (r c : List Int32) (f : Nat → Nat → Int32) (g : Nat → Nat → Int64) (O : Nat → Nat) (B : Nat → Bool), m < 4 → w ≤ 5 → bsD O w = w → 10 * (q.1 - i) + (4 - m) < n → mSt f g q i c w O B → c.length ≤ i → (m ≤ 1 → B w = false) → mER s R q d w 1 f g w O B true (pE q n m w i r c (B w))
def mLO (s : List (Nat ⊕ (Nat × Nat))) (R : Nat → Nat → Option Nat) (q : Nat × (Nat → Nat)) (n : Nat) : Prop := ∀ (d m w i : Nat) (r c : List Int32) (f : Nat → Nat → Int32) (g : Nat → Nat → Int64) (O : Nat → Nat) (B : Nat → Bool), m < 4 → w ≤ 5 → bsD O w = w → 10 * (q.1 - i) < n → mSt f g q i c w O B → c.length ≤ i → exF (m + 1) (kdT q i) (B w) → (m = 1 → B w = false) → mER s R q d w 0 f g w O B true (pE q n (m + 5) w i r c (B w))
section UREF
variable {s : List (Nat ⊕ (Nat × Nat))} {f f' f1 f2 : Nat → Nat → Int32} {g g' : Nat → Nat → Int64} {R : Nat → Nat → Option Nat} {d i k w m : Nat} {q : Nat × (Nat → Nat)} {c : List Int32} {v : Int32} {O : Nat → Nat} {B : Nat → Bool}
theorem mSt.cmp {x : Bool} (h : mSt f g q i c w O B) : mSt (ur_u f 222 w (ur_b x)) g q i c w O (upA B w x) ∧ eqT TG f (ur_u f 222 w (ur_b x)) := by
  obtain ⟨h1, h2, h3, h4⟩ := h
  have t : eqT (fun a _ => a = 222) f (ur_u f 222 w (ur_b x)) := eqT_u rfl
  refine ⟨⟨h1.fr t (eqL.refl (T := fun _ _ => False)) (fun k z1 z2 z => by omega) (fun k z => by omega) (fun z => z), h2.fr t (by omega) (fun k z => by omega), h3.fr t (fun k z => by omega), fun e he => ?_⟩, t.mono (fun a k z => by unfold TG; omega)⟩
  by_cases q : e = w
  · rw [q, ur_us, upA_s]
  · rw [ur_un q, upA_n q, h4 e he]
theorem sgT (hM : oModel s R 208) (h : mS f g q i) {v : Int32} {c : Nat} (hv : v = nI c) (h40 : 40 ≤ c) (h61 : c ≤ 61) (hk : kdT q i = c) : ur_call ur_G (d + 1) 147 [.ref 208, .int v] (s, f, g, R) = some (1, (s, f, g, R)) := by
  have := m_isSign (d := d) hM h hv h40 h61
  rw [decide_eq_true hk] at this
  exact this
theorem sgF (hM : oModel s R 208) (h : mS f g q i) {v : Int32} {c : Nat} (hv : v = nI c) (h40 : 40 ≤ c) (h61 : c ≤ 61) (hk : kdT q i ≠ c) : ur_call ur_G (d + 1) 147 [.ref 208, .int v] (s, f, g, R) = some (0, (s, f, g, R)) := by
  have := m_isSign (d := d) hM h hv h40 h61
  rw [decide_eq_false hk] at this
  exact this
theorem wdT {x : Int64} (hM : oModel s R 208) (h : mS f g q i) (hk : k < 20) (hx : x = lN (wN 27 (kwl.getD k []))) (he : kdT q i = 100 + k) : ur_call ur_G (d + 1) 146 [.ref 208, .long x] (s, f, g, R) = some (1, (s, f, g, R)) := by
  have := m_isWord (d := d) hM h hk hx
  rw [decide_eq_true he] at this
  exact this
theorem wdF {x : Int64} (hM : oModel s R 208) (h : mS f g q i) (hk : k < 20) (hx : x = lN (wN 27 (kwl.getD k []))) (he : kdT q i ≠ 100 + k) : ur_call ur_G (d + 1) 146 [.ref 208, .long x] (s, f, g, R) = some (0, (s, f, g, R)) := by
  have := m_isWord (d := d) hM h hk hx
  rw [decide_eq_false he] at this
  exact this
theorem d10 : decide ((1 : Int32) ≠ 0) = true := by decide
theorem d00 : decide ((0 : Int32) ≠ 0) = false := by decide
theorem e10 : decide ((1 : Int32) = 0) = false := by decide
theorem e00 : decide ((0 : Int32) = 0) = true := by decide
theorem m_op (hM : oModel s R 208) (h : mSt f g q i c w O B) (hw : w ≤ 5) (hc : c.length ≤ i) (hl : lvO (kdT q i) = m) (hm : m < 4) (hb : m = 1 → B w = false) : ∃ f' g', mSt f' g' q (enT q i) (c ++ [nI (opC (kdT q i))]) w O (upA B w (flC m (B w))) ∧ eqT TG f f' ∧ eqL GF2 g g' ∧ ∀ rr, mAt s R d 11 w 1 f' g' = some rr → mAt s R d 11 w 0 f g = some rr := by
  have hn := tk_next h.1.le
  have hle := h.1.1.2.1
  obtain ⟨hk1, hk⟩ := lvO_1 hl hm
  have hlt := hn.2.1 hk1
  have hcl : c.length < 1000 := by omega
  have nar1 : vp_nar .boolean (1 : Int32) = ur_b true := nar_b true
  have nar0 : vp_nar .boolean (0 : Int32) = ur_b false := nar_b false
  have a14 : ∀ f' g', ur_aB (s, f', g', R) (208 + 14) (nI w) = some (f' (208 + 14) w) := fun f' g' => m_aB14 hM (by omega)
  have w14 : ∀ f' g' v, ur_wI (s, f', g', R) (208 + 14) 2 (nI w) v = some (s, ur_u f' 222 w v, g', R) := fun f' g' v => hM.w14 (show w < 7 by omega)
  have ecm : f (208 + 14) w = ur_b (B w) := h.2.2.2 w (Nat.le_refl w)
  rcases hk with hk | hk | hk | hk | hk | hk | hk
  · have hmv : m = 3 := by rw [← hl, hk]; rfl
    subst hmv
    rw [hk, show nI (opC 42) = (22 : Int32) from by decide]
    have s43 := sgF (d := d + 1) hM h.1 (v := 43) (c := 43) rfl (by decide) (by decide) (by omega)
    have s45 := sgF (d := d + 1) hM h.1 (v := 45) (c := 45) rfl (by decide) (by decide) (by omega)
    have s42 := sgT (d := d + 1) hM h.1 (v := 42) (c := 42) rfl (by decide) (by decide) hk
    obtain ⟨f1, p1, p2, p3⟩ := m_putS (d := d + 1) (v := 22) hM h hcl
    obtain ⟨f2, g2, n1, n2, n3, n4⟩ := m_nxS (d := d) hM p2
    rw [show flC 3 (B w) = B w from rfl, upA_id]
    refine ⟨f2, g2, n2, p3.trans n3, n4, fun rr hr => e_X10_reads_11 _ _ _ _ ?_⟩
    simp only [e00, e10, d10, d00, cond_true, cond_false, s43, s45, s42, Option.bind_some]
    refine e_X10_reads_206 _ _ _ ?_
    simp only [e00, e10, d10, d00, cond_true, cond_false, s43, s45, Option.bind_some, p1, n1]
    exact hr
  · have hmv : m = 2 := by rw [← hl, hk]; rfl
    subst hmv
    rw [hk, show nI (opC 43) = (20 : Int32) from by decide]
    have s43 := sgT (d := d + 1) hM h.1 (v := 43) (c := 43) rfl (by decide) (by decide) hk
    obtain ⟨f1, p1, p2, p3⟩ := m_putS (d := d + 1) (v := 20) hM h hcl
    obtain ⟨f2, g2, n1, n2, n3, n4⟩ := m_nxS (d := d) hM p2
    rw [show flC 2 (B w) = B w from rfl, upA_id]
    refine ⟨f2, g2, n2, p3.trans n3, n4, fun rr hr => e_X10_reads_11 _ _ _ _ ?_⟩
    simp only [e00, e10, d10, d00, cond_true, cond_false, s43, Option.bind_some]
    refine e_X10_reads_206 _ _ _ ?_
    simp only [e00, e10, d10, d00, cond_true, cond_false, s43, Option.bind_some, p1, n1]
    exact hr
  · have hmv : m = 2 := by rw [← hl, hk]; rfl
    subst hmv
    rw [hk, show nI (opC 45) = (21 : Int32) from by decide]
    have s43 := sgF (d := d + 1) hM h.1 (v := 43) (c := 43) rfl (by decide) (by decide) (by omega)
    have s45 := sgT (d := d + 1) hM h.1 (v := 45) (c := 45) rfl (by decide) (by decide) hk
    obtain ⟨f1, p1, p2, p3⟩ := m_putS (d := d + 1) (v := 21) hM h hcl
    obtain ⟨f2, g2, n1, n2, n3, n4⟩ := m_nxS (d := d) hM p2
    rw [show flC 2 (B w) = B w from rfl, upA_id]
    refine ⟨f2, g2, n2, p3.trans n3, n4, fun rr hr => e_X10_reads_11 _ _ _ _ ?_⟩
    simp only [e00, e10, d10, d00, cond_true, cond_false, s43, s45, Option.bind_some]
    refine e_X10_reads_206 _ _ _ ?_
    simp only [e00, e10, d10, d00, cond_true, cond_false, s43, s45, Option.bind_some, p1, n1]
    exact hr
  · have hmv : m = 1 := by rw [← hl, hk]; rfl
    subst hmv
    rw [hk, show nI (opC 60) = (24 : Int32) from by decide]
    have s43 := sgF (d := d + 1) hM h.1 (v := 43) (c := 43) rfl (by decide) (by decide) (by omega)
    have s45 := sgF (d := d + 1) hM h.1 (v := 45) (c := 45) rfl (by decide) (by decide) (by omega)
    have s42 := sgF (d := d + 1) hM h.1 (v := 42) (c := 42) rfl (by decide) (by decide) (by omega)
    have s60 := sgT (d := d + 1) hM h.1 (v := 60) (c := 60) rfl (by decide) (by decide) hk
    obtain ⟨f1, p1, p2, p3⟩ := m_putS (d := d + 1) (v := 24) hM h hcl
    obtain ⟨c1, c2⟩ := p2.cmp (x := true)
    obtain ⟨f2, g2, n1, n2, n3, n4⟩ := m_nxS (d := d) hM c1
    rw [show flC 1 (B w) = true from rfl]
    refine ⟨f2, g2, n2, (p3.trans c2).trans n3, n4, fun rr hr => e_X10_reads_11 _ _ _ _ ?_⟩
    simp only [e00, e10, d10, d00, cond_true, cond_false, s43, s45, s42, s60, Option.bind_some]
    refine e_X10_reads_263 _ _ _ _ ?_
    simp only [hM.r23, a14, ecm, hb rfl, show ur_b false = (0 : Int32) from rfl, e00, e10, d10, d00, cond_true, cond_false, s60, Option.bind_some, p1, nar1, w14, n1]
    exact hr
  · have hmv : m = 1 := by rw [← hl, hk]; rfl
    subst hmv
    rw [hk, show nI (opC 61) = (25 : Int32) from by decide]
    have s43 := sgF (d := d + 1) hM h.1 (v := 43) (c := 43) rfl (by decide) (by decide) (by omega)
    have s45 := sgF (d := d + 1) hM h.1 (v := 45) (c := 45) rfl (by decide) (by decide) (by omega)
    have s42 := sgF (d := d + 1) hM h.1 (v := 42) (c := 42) rfl (by decide) (by decide) (by omega)
    have s60 := sgF (d := d + 1) hM h.1 (v := 60) (c := 60) rfl (by decide) (by decide) (by omega)
    have s61 := sgT (d := d + 1) hM h.1 (v := 61) (c := 61) rfl (by decide) (by decide) hk
    obtain ⟨f1, p1, p2, p3⟩ := m_putS (d := d + 1) (v := 25) hM h hcl
    obtain ⟨c1, c2⟩ := p2.cmp (x := true)
    obtain ⟨f2, g2, n1, n2, n3, n4⟩ := m_nxS (d := d) hM c1
    rw [show flC 1 (B w) = true from rfl]
    refine ⟨f2, g2, n2, (p3.trans c2).trans n3, n4, fun rr hr => e_X10_reads_11 _ _ _ _ ?_⟩
    simp only [e00, e10, d10, d00, cond_true, cond_false, s43, s45, s42, s60, s61, Option.bind_some]
    refine e_X10_reads_263 _ _ _ _ ?_
    simp only [hM.r23, a14, ecm, hb rfl, show ur_b false = (0 : Int32) from rfl, e00, e10, d10, d00, cond_true, cond_false, s60, Option.bind_some, p1, nar1, w14, n1]
    exact hr
  · have hmv : m = 0 := by rw [← hl, hk]; rfl
    subst hmv
    rw [hk, show nI (opC 118) = (26 : Int32) from by decide]
    have s43 := sgF (d := d + 1) hM h.1 (v := 43) (c := 43) rfl (by decide) (by decide) (by omega)
    have s45 := sgF (d := d + 1) hM h.1 (v := 45) (c := 45) rfl (by decide) (by decide) (by omega)
    have s42 := sgF (d := d + 1) hM h.1 (v := 42) (c := 42) rfl (by decide) (by decide) (by omega)
    have s60 := sgF (d := d + 1) hM h.1 (v := 60) (c := 60) rfl (by decide) (by decide) (by omega)
    have s61 := sgF (d := d + 1) hM h.1 (v := 61) (c := 61) rfl (by decide) (by decide) (by omega)
    have w1111 := wdT (d := d + 1) hM h.1 (k := 18) (x := 1111) (by decide) (by decide +kernel) hk
    obtain ⟨f1, p1, p2, p3⟩ := m_putS (d := d + 1) (v := 26) hM h hcl
    obtain ⟨c1, c2⟩ := p2.cmp (x := false)
    obtain ⟨f2, g2, n1, n2, n3, n4⟩ := m_nxS (d := d) hM c1
    rw [show flC 0 (B w) = false from rfl]
    refine ⟨f2, g2, n2, (p3.trans c2).trans n3, n4, fun rr hr => e_X10_reads_11 _ _ _ _ ?_⟩
    simp only [e00, e10, d10, d00, cond_true, cond_false, s43, s45, s42, s60, s61, Option.bind_some]
    refine e_X10_reads_304 _ _ _ _ ?_
    simp only [e00, e10, d10, d00, cond_true, cond_false, w1111, Option.bind_some]
    refine e_X10_reads_324 _ _ _ ?_
    simp only [e00, e10, d10, d00, cond_true, cond_false, w1111, Option.bind_some, p1, hM.r23, nar0, w14, n1]
    exact hr
  · have hmv : m = 0 := by rw [← hl, hk]; rfl
    subst hmv
    rw [hk, show nI (opC 119) = (27 : Int32) from by decide]
    have s43 := sgF (d := d + 1) hM h.1 (v := 43) (c := 43) rfl (by decide) (by decide) (by omega)
    have s45 := sgF (d := d + 1) hM h.1 (v := 45) (c := 45) rfl (by decide) (by decide) (by omega)
    have s42 := sgF (d := d + 1) hM h.1 (v := 42) (c := 42) rfl (by decide) (by decide) (by omega)
    have s60 := sgF (d := d + 1) hM h.1 (v := 60) (c := 60) rfl (by decide) (by decide) (by omega)
    have s61 := sgF (d := d + 1) hM h.1 (v := 61) (c := 61) rfl (by decide) (by decide) (by omega)
    have w1111 := wdF (d := d + 1) hM h.1 (k := 18) (x := 1111) (by decide) (by decide +kernel) (by omega)
    have w423 := wdT (d := d + 1) hM h.1 (k := 19) (x := 423) (by decide) (by decide +kernel) hk
    obtain ⟨f1, p1, p2, p3⟩ := m_putS (d := d + 1) (v := 27) hM h hcl
    obtain ⟨c1, c2⟩ := p2.cmp (x := false)
    obtain ⟨f2, g2, n1, n2, n3, n4⟩ := m_nxS (d := d) hM c1
    rw [show flC 0 (B w) = false from rfl]
    refine ⟨f2, g2, n2, (p3.trans c2).trans n3, n4, fun rr hr => e_X10_reads_11 _ _ _ _ ?_⟩
    simp only [e00, e10, d10, d00, cond_true, cond_false, s43, s45, s42, s60, s61, Option.bind_some]
    refine e_X10_reads_304 _ _ _ _ ?_
    simp only [e00, e10, d10, d00, cond_true, cond_false, w1111, w423, Option.bind_some]
    refine e_X10_reads_324 _ _ _ ?_
    simp only [e00, e10, d10, d00, cond_true, cond_false, w1111, Option.bind_some, p1, hM.r23, nar0, w14, n1]
    exact hr
/-- no operator stands there: to 304 -/
theorem m_noop (hM : oModel s R 208) (h : mSt f g q i c w O B) (hw : w ≤ 5) (hx : exF 0 (kdT q i) (B w)) (rr : ur_V) (hr : mAt s R d 304 w 0 f g = some rr) : mAt s R d 11 w 0 f g = some rr := by
  obtain ⟨x3, x2, x1, x0⟩ := hx
  have x3 := x3 (by decide)
  have x2 := x2 (by decide)
  have n43 : kdT q i ≠ 43 := fun z => x2 (by rw [z]; rfl)
  have n45 : kdT q i ≠ 45 := fun z => x2 (by rw [z]; rfl)
  have n42 : kdT q i ≠ 42 := fun z => x3 (by rw [z]; rfl)
  have s43 := sgF (d := d + 1) hM h.1 (v := 43) (c := 43) rfl (by decide) (by decide) n43
  have s45 := sgF (d := d + 1) hM h.1 (v := 45) (c := 45) rfl (by decide) (by decide) n45
  have s42 := sgF (d := d + 1) hM h.1 (v := 42) (c := 42) rfl (by decide) (by decide) n42
  have a14 : ur_aB (s, f, g, R) (208 + 14) (nI w) = some (f (208 + 14) w) := m_aB14 hM (by omega)
  have ecm : f (208 + 14) w = ur_b (B w) := h.2.2.2 w (Nat.le_refl w)
  have to263 : lvO (kdT q i) = 1 → mAt s R d 263 w 0 f g = some rr := fun hl => by
    refine e_X10_reads_263 _ _ _ _ ?_
    simp only [hM.r23, a14, ecm, x1 (by decide) hl, show ur_b true = (1 : Int32) from rfl, d10, cond_true, Option.bind_some]
    exact hr
  refine e_X10_reads_11 _ _ _ _ ?_
  by_cases k60 : kdT q i = 60
  · have s60 := sgT (d := d + 1) hM h.1 (v := 60) (c := 60) rfl (by decide) (by decide) k60
    simp only [e00, e10, d10, d00, cond_true, cond_false, s43, s45, s42, s60, Option.bind_some]
    exact to263 (by rw [k60]; rfl)
  · have s60 := sgF (d := d + 1) hM h.1 (v := 60) (c := 60) rfl (by decide) (by decide) k60
    by_cases k61 : kdT q i = 61
    · have s61 := sgT (d := d + 1) hM h.1 (v := 61) (c := 61) rfl (by decide) (by decide) k61
      simp only [e00, e10, d10, d00, cond_true, cond_false, s43, s45, s42, s60, s61, Option.bind_some]
      exact to263 (by rw [k61]; rfl)
    · have s61 := sgF (d := d + 1) hM h.1 (v := 61) (c := 61) rfl (by decide) (by decide) k61
      simp only [e00, e10, d10, d00, cond_true, cond_false, s43, s45, s42, s60, s61, Option.bind_some]
      exact hr
/-- neither a closing nor an operator: to 399 -/
theorem m_no304 (hM : oModel s R 208) (h : mSt f g q i c w O B) (hx : exF 0 (kdT q i) (B w)) (hn : kdT q i ≠ 41 ∨ w = 0) (hw : w ≤ 5) (rr : ur_V) (hr : ur_at ur_G (d + 2) 151 (399, [some (.ref 208), some (.int (nI w)), none, none, none, none], [], (s, f, g, R)) = some rr) : mAt s R d 304 w 0 f g = some rr := by
  have x0 := hx.2.2.2 rfl
  have w1111 := wdF (d := d + 1) hM h.1 (k := 18) (x := 1111) (by decide) (by decide +kernel) (fun z => x0 (by rw [z]; rfl))
  have w423 := wdF (d := d + 1) hM h.1 (k := 19) (x := 423) (by decide) (by decide +kernel) (fun z => x0 (by rw [z]; rfl))
  refine e_X10_reads_304 _ _ _ _ ?_
  by_cases k41 : kdT q i = 41
  · have hw0 : w = 0 := by
      rcases hn with z | z
      · exact absurd k41 z
      · exact z
    subst hw0
    have s41 := sgT (d := d + 1) hM h.1 (v := 41) (c := 41) rfl (by decide) (by decide) k41
    simp only [e00, e10, d10, d00, cond_true, cond_false, w1111, w423, s41, Option.bind_some, show decide (nI 0 ≤ (0 : Int32)) = true from by decide]
    exact hr
  · have s41 := sgF (d := d + 1) hM h.1 (v := 41) (c := 41) rfl (by decide) (by decide) k41
    simp only [e00, e10, d10, d00, cond_true, cond_false, w1111, w423, s41, Option.bind_some]
    exact hr
theorem m_PA (hM : oModel s R 208) {n : Nat} (hP : mPA s R q n) (hL : mLA s R q n) : mPA s R q (n + 1) := by
  intro d w i r c b f g O B hw hfu h hc
  have hS := h.1
  have hn := tk_next hS.le
  have hle := hS.1.2.1
  have hkl := hS.kl
  have fc := m_fact (d := d + 1) hM hS
  have f1' := m_fl (d := d + 1) hM hS (k := 1) (v := 1) rfl
  have f5' := m_fl (d := d + 1) hM hS (k := 5) (v := 5) rfl
  have tfl : ∀ F, eqT TG f (ur_u f 208 9 (nI F)) := fun F => eqT_u (Or.inl ⟨rfl, by omega⟩)
  have nw5 : decide (nI w ≠ (5 : Int32)) = !decide (5 ≤ w) := by
    by_cases e : w = 5
    · subst e; rfl
    · rw [decide_eq_false (show ¬ 5 ≤ w by omega), decide_eq_true (show nI w ≠ (5 : Int32) from fun z => e ((nI_eq (b := 5) (by omega) (by decide)).mp z))]; rfl
  have deep : ∀ p3 p4 p5 : Int32, 5 ≤ w → ur_at ur_G (d + 2) 151 (65, [some (.ref 208), some (.int (nI w)), some (.int 1), some (.int p3), some (.int p4), some (.int p5)], [], (s, f, g, R)) = some (0, (s, ur_u f 208 9 (nI (5 + 16 * bgT q i)), g, R)) := fun p3 p4 p5 h5 => by
    refine e_X10_reads_65 _ _ _ _ _ _ _ ?_
    rw [nw5, decide_eq_true h5, Bool.not_true, cond_false, f5', Option.bind_some]
    rfl
  -- a leaf: one code, then the nots are gone
  have leaf : ∀ (v : Int32) (p3 p4 p5 : Int32), kdT q i ≠ 1 → ¬ 5 ≤ w → (∀ rr, ((ur_call ur_G (d + 2) 149 [.ref 208, .int v] (s, f, g, R)).bind fun q2 => ur_at ur_G (d + 2) 151 (152, [some (.ref 208), some (.int (nI w)), some (.int 0), none, none, none], [], q2.2)) = some rr → mAt s R d 11 w 1 f g = some rr) → mER s R q d w 1 f g (bsD O w) O B false (.inr (enT q i, r, c ++ [v], b)) := fun v p3 p4 p5 hk hw5 hgo => by
    have hlt := hn.2.1 hk
    obtain ⟨f1, p1, p2, p3'⟩ := m_putS (d := d + 1) (v := v) hM h (by omega)
    obtain ⟨f2, g2, n1, n2, n3, n4⟩ := m_nxS (d := d) hM p2
    have hbs := bsD_le O w
    refine ⟨f2, g2, ⟨n2.1, n2.2.1, n2.2.2.1.le hbs, n2.2.2.2.le hbs⟩, p3'.trans n3, n4, fun rr hr => hgo rr ?_⟩
    rw [p1, Option.bind_some]
    refine (m_pop (d := d) (g := g) hM w (by omega) p2.2.2.1).1 rr ?_
    rw [n1, Option.bind_some]
    exact hr
  rw [pE_pt]
  by_cases k2 : kdT q i = 2
  · rw [if_pos k2]
    have f0 : fcM q i = 0 := by
      apply Classical.byContradiction
      intro z
      have := (fcM_3 z).1
      omega
    rw [f0] at fc
    have w17 := wdF (d := d + 1) hM hS (k := 17) (x := 10631) (by decide) (by decide +kernel) (show kdT q i ≠ 100 + 17 by omega)
    have s40 := sgF (d := d + 1) hM hS (v := 40) (c := 40) rfl (by decide) (by decide) (show kdT q i ≠ 40 by omega)
    have t2 : f 208 6 = (2 : Int32) := by rw [hS.tk, k2]; rfl
    have to65 : ∀ rr, ur_at ur_G (d + 2) 151 (65, [some (.ref 208), some (.int (nI w)), some (.int 1), some (.int (nI 0)), some (.int 0), some (.int 0)], [], (s, f, g, R)) = some rr → mAt s R d 11 w 1 f g = some rr := fun rr hr => by
      refine e_X10_reads_11 _ _ _ _ ?_
      simp only [e10, cond_false, fc, w17, s40, Option.bind_some, show decide (nI 0 ≠ (0 : Int32)) = false from by decide, d00, hM.I, t2, show decide ((2 : Int32) = 2) = true from by decide, cond_true]
      exact hr
    by_cases hw5 : 5 ≤ w
    · rw [if_pos hw5]
      exact ⟨_, g, to65 _ (deep _ _ _ hw5), ur_us, tfl _, eqL.refl⟩
    · rw [if_neg hw5]
      refine leaf _ 0 0 0 (by omega) hw5 (fun rr hr => to65 rr (e_X10_reads_65 _ _ _ _ _ _ _ ?_))
      rw [nw5, decide_eq_false hw5, Bool.not_false, cond_true, d00, cond_false, e00, cond_true, show decide (nI 0 ≤ (0 : Int32)) = true from by decide, cond_true]
      simp only [hM.I, Option.bind_some, hS.nu k2, show (100 : Int32) + nI (nmT q i) = nI (100 + nmT q i) from nI_add 100 _]
      exact hr
  · rw [if_neg k2]
    have t2 : decide (f 208 6 = (2 : Int32)) = false := by
      rw [hS.tk]
      have h4 : tkM (kdT q i) ≤ 4 := by
        rcases isW_d (k := kdT q i) with z | z
        · rw [tk_W z]; decide
        · exact (tk_ne z).2
      refine decide_eq_false (fun z => ?_)
      have e := (nI_eq (b := 2) (by omega) (by decide)).mp z
      rcases isW_d (k := kdT q i) with z | z
      · rw [tk_W z] at e; omega
      · rw [tk_nW z] at e
        rw [decide_eq_false (show ¬ kdT q i = 2 from k2)] at e
        revert e
        cases decide (kdT q i = 1) <;> cases decide (kdT q i = 0) <;> simp
    have opn : ∀ (o : Nat) (v p4 : Int32), (o = 1 ∨ o = 2) → kdT q i ≠ 1 → ¬ 5 ≤ w → (bif decide (p4 = 0) then (2 : Int32) else 1) = nI o → ∃ f' g', mSt f' g' q (enT q i) (c ++ [v]) (w + 1) (upA O (w + 1) o) (upA B (w + 1) false) ∧ eqT TG f f' ∧ eqL GF2 g g' ∧ ∀ rr, mAt s R d 11 (w + 1) 1 f' g' = some rr → ur_at ur_G (d + 2) 151 (99, [some (.ref 208), some (.int (nI w)), some (.int 1), none, some (.int p4), none], [.int v, .ref 208], (s, f, g, R)) = some rr := fun o v p4 ho hk hw5 hp => by
      have hlt := hn.2.1 hk
      obtain ⟨f1, p1, p2, p3⟩ := m_putS (d := d + 1) (v := v) hM h (by omega)
      obtain ⟨f2, hf2⟩ : ∃ f2, f2 = ur_u (ur_u f1 221 (w + 1) (nI o)) 222 (w + 1) (ur_b false) := ⟨_, rfl⟩
      have t2' : eqT (fun a _ => a = 221 ∨ a = 222) f1 f2 := by rw [hf2]; exact (eqT_u (Or.inl rfl)).u (Or.inr rfl)
      have m2 : mSt f2 g q i (c ++ [v]) (w + 1) (upA O (w + 1) o) (upA B (w + 1) false) := by
        obtain ⟨a1, a2, a3, a4⟩ := p2
        refine ⟨a1.fr t2' (eqL.refl (T := fun _ _ => False)) (fun k z1 z2 z => by omega) (fun k z => by omega) (fun z => z), a2.fr t2' (by omega) (fun k z => by omega), fun e h1 h2 => ?_, fun e h1 => ?_⟩
        · by_cases e1 : e = w + 1
          · rw [e1, upA_s, hf2, ur_ua (by decide), ur_us]; exact ⟨rfl, ho⟩
          · rw [upA_n e1, hf2, ur_ua (by decide), ur_un e1]; exact a3 e h1 (by omega)
        · by_cases e1 : e = w + 1
          · rw [e1, upA_s, hf2, ur_us]
          · rw [upA_n e1, hf2, ur_un e1, ur_ua (by decide)]; exact a4 e (by omega)
      obtain ⟨f3, g3, n1, n2, n3, n4⟩ := m_nxS (d := d) hM m2
      refine ⟨f3, g3, n2, (p3.trans (t2'.mono (fun a k z => by unfold TG; omega))).trans n3, n4, fun rr hr => e_X10_reads_99 _ _ _ _ _ _ _ ?_⟩
      have w13 : ∀ v, ur_wI (s, f1, g, R) (208 + 13) 0 (nI (w + 1)) v = some (s, ur_u f1 221 (w + 1) v, g, R) := fun v => hM.w13 (by omega)
      have w14 : ∀ f' v, ur_wI (s, f', g, R) (208 + 14) 2 (nI (w + 1)) v = some (s, ur_u f' 222 (w + 1) v, g, R) := fun f' v => hM.w14 (by omega)
      have nar0 : vp_nar .boolean (0 : Int32) = ur_b false := nar_b false
      simp only [p1, Option.bind_some, hM.r22, hM.r23, nI_1, nar0]
      revert hp
      cases decide (p4 = 0) with
      | true =>
        intro hp
        rw [cond_true] at hp
        simp only [cond_true, w13, w14, hM.r23, Option.bind_some, hp, ← hf2, n1]
        exact hr
      | false =>
        intro hp
        rw [cond_false] at hp
        rw [← hp] at hf2
        simp only [cond_false, w13, w14, hM.r23, Option.bind_some, ← hf2, n1]
        exact hr
    by_cases k117 : kdT q i = 117
    · rw [if_pos k117]
      have f0 : fcM q i = 0 := by
        apply Classical.byContradiction
        intro z
        have := (fcM_3 z).1
        omega
      rw [f0] at fc
      have w17 := wdT (d := d + 1) hM hS (k := 17) (x := 10631) (by decide) (by decide +kernel) k117
      have s40 := sgF (d := d + 1) hM hS (v := 40) (c := 40) rfl (by decide) (by decide) (show kdT q i ≠ 40 by omega)
      have to65 : ∀ rr, ur_at ur_G (d + 2) 151 (65, [some (.ref 208), some (.int (nI w)), some (.int 1), some (.int (nI 0)), some (.int 1), some (.int 0)], [], (s, f, g, R)) = some rr → mAt s R d 11 w 1 f g = some rr := fun rr hr => by
        refine e_X10_reads_11 _ _ _ _ ?_
        simp only [e10, cond_false, fc, w17, s40, Option.bind_some, show decide (nI 0 ≠ (0 : Int32)) = false from by decide, d10, cond_true]
        exact hr
      by_cases hw5 : 5 ≤ w
      · rw [if_pos hw5]
        exact ⟨_, g, to65 _ (deep _ _ _ hw5), ur_us, tfl _, eqL.refl⟩
      · rw [if_neg hw5]
        have hlt := hn.2.1 (show kdT q i ≠ 1 by omega)
        obtain ⟨f1, g1, o1, o2, o3, o4⟩ := opn 1 30 1 (Or.inl rfl) (by omega) hw5 rfl
        have go : ∀ rr, mAt s R d 11 (w + 1) 1 f1 g1 = some rr → mAt s R d 11 w 1 f g = some rr := fun rr hr => by
          refine to65 rr (e_X10_reads_65 _ _ _ _ _ _ _ ?_)
          rw [nw5, decide_eq_false hw5, Bool.not_false, cond_true, d10, cond_true, e10, cond_false]
          exact o4 rr hr
        have sub := hP d (w + 1) (enT q i) r (c ++ [30]) b f1 g1 (upA O (w + 1) 1) (upA B (w + 1) false) (by omega) (by omega) o1 (by simp only [List.length_append, List.length_cons, List.length_nil]; omega)
        have ebs : bsD (upA O (w + 1) 1) (w + 1) = bsD O w := by
          show (bif decide (upA O (w + 1) 1 (w + 1) = 1) then bsD (upA O (w + 1) 1) w else w + 1) = bsD O w
          rw [upA_s, decide_eq_true rfl, cond_true]
          exact bsD_cg w (fun e he => upA_n (by omega))
        rw [ebs] at sub
        cases hp : pE q n 4 (w + 1) (enT q i) r (c ++ [30]) b with
        | inl F =>
          rw [hp] at sub
          obtain ⟨f2, g2, z1, z2, z3, z4⟩ := sub
          exact ⟨f2, g2, go _ z1, z2, o2.trans z3, o3.trans z4⟩
        | inr x =>
          rw [hp] at sub
          obtain ⟨f2, g2, ⟨y1, y2, y3, y4⟩, z3, z4, z5⟩ := sub
          have hbs := bsD_le O w
          refine ⟨f2, g2, ⟨y1, y2, fun e h1 h2 => ?_, fun e h1 => ?_⟩, o2.trans z3, o3.trans z4, fun rr hr => go rr (z5 rr hr)⟩
          · have := y3 e h1 h2
            rw [upA_n (show e ≠ w + 1 by omega)] at this
            exact this
          · have := y4 e h1
            rw [cond_false, upA_n (show e ≠ w + 1 by omega)] at this
            exact this
    · rw [if_neg k117]
      have w17 := wdF (d := d + 1) hM hS (k := 17) (x := 10631) (by decide) (by decide +kernel) (show kdT q i ≠ 100 + 17 by omega)
      by_cases k40 : kdT q i = 40
      · rw [if_pos k40]
        have f0 : fcM q i = 0 := by
          apply Classical.byContradiction
          intro z
          have := (fcM_3 z).1
          omega
        rw [f0] at fc
        have s40 := sgT (d := d + 1) hM hS (v := 40) (c := 40) rfl (by decide) (by decide) k40
        have to65 : ∀ rr, ur_at ur_G (d + 2) 151 (65, [some (.ref 208), some (.int (nI w)), some (.int 1), some (.int (nI 0)), some (.int 0), some (.int 1)], [], (s, f, g, R)) = some rr → mAt s R d 11 w 1 f g = some rr := fun rr hr => by
          refine e_X10_reads_11 _ _ _ _ ?_
          simp only [e10, cond_false, fc, w17, s40, Option.bind_some, show decide (nI 0 ≠ (0 : Int32)) = false from by decide, d00, d10, cond_true]
          exact hr
        by_cases hw5 : 5 ≤ w
        · rw [if_pos hw5]
          exact ⟨_, g, to65 _ (deep _ _ _ hw5), ur_us, tfl _, eqL.refl⟩
        · rw [if_neg hw5]
          have hlt := hn.2.1 (show kdT q i ≠ 1 by omega)
          obtain ⟨f1, g1, o1, o2, o3, o4⟩ := opn 2 28 0 (Or.inr rfl) (by omega) hw5 rfl
          have go : ∀ rr, mAt s R d 11 (w + 1) 1 f1 g1 = some rr → mAt s R d 11 w 1 f g = some rr := fun rr hr => by
            refine to65 rr (e_X10_reads_65 _ _ _ _ _ _ _ ?_)
            rw [nw5, decide_eq_false hw5, Bool.not_false, cond_true, d00, cond_false, e10, cond_false, e00, cond_true]
            exact o4 rr hr
          have ebs : bsD (upA O (w + 1) 2) (w + 1) = w + 1 := by
            show (bif decide (upA O (w + 1) 2 (w + 1) = 1) then bsD (upA O (w + 1) 2) w else w + 1) = w + 1
            rw [upA_s, decide_eq_false (by decide), cond_false]
          have sub := hL d 0 (w + 1) (enT q i) r (c ++ [28]) f1 g1 (upA O (w + 1) 2) (upA B (w + 1) false) (by omega) (by omega) ebs (by omega) o1 (by simp only [List.length_append, List.length_cons, List.length_nil]; omega) (fun _ => upA_s)
          rw [upA_s] at sub
          cases hp : pE q n 0 (w + 1) (enT q i) r (c ++ [28]) false with
          | inl F =>
            rw [hp] at sub
            obtain ⟨f2, g2, z1, z2, z3, z4⟩ := sub
            exact ⟨f2, g2, go _ z1, z2, o2.trans z3, o3.trans z4⟩
          | inr x =>
            rw [hp] at sub
            obtain ⟨f2, g2, y, z3, z4, z5⟩ := sub
            rw [cond_true, upA_uu] at y
            have hx := (pE_ex n 0 (w + 1) (enT q i) r (c ++ [28]) false x (by omega)).1 hp
            have pr := pE_pr n 0 (w + 1) (enT q i) r (c ++ [28]) false x hn.1 (by omega) hp
            have hx' : exF 0 (kdT q x.1) (upA B (w + 1) x.2.2.2 (w + 1)) := by rw [upA_s]; exact hx
            show mER s R q d w 1 f g (bsD O w) O B false (if kdT q x.1 = 41 then .inr (enT q x.1, x.2.1, x.2.2.1 ++ [29], b) else .inl (1 + 16 * bgT q x.1))
            by_cases k41 : kdT q x.1 = 41
            · rw [if_pos k41]
              have hn2 := tk_next pr.1
              have hlt2 := hn2.2.1 (show kdT q x.1 ≠ 1 by omega)
              have hlc : x.2.2.1.length < 1000 := by
                have := pr.2.2.2.2.1
                simp only [List.length_append, List.length_cons, List.length_nil] at this
                omega
              obtain ⟨f3, p1, p2, p3⟩ := m_putS (d := d + 1) (v := 29) hM y hlc
              obtain ⟨f4, g4, n1, n2, n3, n4⟩ := m_nxS (d := d) hM p2
              have hbs := bsD_le O w
              refine ⟨f4, g4, ⟨n2.1, n2.2.1, fun e h1 h2 => ?_, fun e h1 => ?_⟩, (o2.trans z3).trans (p3.trans n3), (o3.trans z4).trans n4, fun rr hr => go rr (z5 rr (m_noop hM y (by omega) hx' rr (e_X10_reads_304 _ _ _ _ ?_)))⟩
              · have := n2.2.2.1 e h1 (by omega)
                rw [upA_n (show e ≠ w + 1 by omega)] at this
                exact this
              · have := n2.2.2.2 e (by omega)
                rw [upA_n (show e ≠ w + 1 by omega)] at this
                exact this
              · have x0 := hx.2.2.2 rfl
                have w1111 := wdF (d := d + 1) hM y.1 (k := 18) (x := 1111) (by decide) (by decide +kernel) (fun z => x0 (by rw [z]; rfl))
                have w423 := wdF (d := d + 1) hM y.1 (k := 19) (x := 423) (by decide) (by decide +kernel) (fun z => x0 (by rw [z]; rfl))
                have s41 := sgT (d := d + 1) hM y.1 (v := 41) (c := 41) rfl (by decide) (by decide) k41
                simp only [e00, e10, d10, d00, cond_true, cond_false, w1111, w423, s41, Option.bind_some, decide_eq_false (nI_nle (show 0 < w + 1 by omega) (show w + 1 < 2 ^ 31 by omega)), p1, show nI (w + 1) + (-1) = nI w from pk_m1 w]
                have ho : opnS f3 w O := fun e h1 h2 => by
                  have := p2.2.2.1 e h1 (by omega)
                  rw [upA_n (show e ≠ w + 1 by omega)] at this
                  exact this
                refine (m_pop (d := d) (g := g2) hM w (by omega) ho).2 rr ?_
                rw [n1, Option.bind_some]
                exact hr
            · rw [if_neg k41]
              have fx := m_fl (d := d + 1) hM y.1 (k := 1) (v := 1) rfl
              refine ⟨ur_u f2 208 9 (nI (1 + 16 * bgT q x.1)), g2, go _ (z5 _ (m_noop hM y (by omega) hx' _ (m_no304 hM y hx' (Or.inl k41) (by omega) _ (e_X10_reads_399 _ _ _ ?_)))), ur_us, (o2.trans z3).u (Or.inl ⟨rfl, by omega⟩), o3.trans z4⟩
              rw [decide_eq_true (show nI (w + 1) ≠ 0 from nI_ne0 (by omega) (by omega)), cond_true, fx, Option.bind_some]
              rfl
      · rw [if_neg k40]
        have s40 := sgF (d := d + 1) hM hS (v := 40) (c := 40) rfl (by decide) (by decide) k40
        by_cases hf : fcM q i = 0
        · rw [if_pos hf]
          rw [hf] at fc
          refine ⟨ur_u f 208 9 (nI (1 + 16 * bgT q i)), g, e_X10_reads_11 _ _ _ _ ?_, ur_us, tfl _, eqL.refl⟩
          simp only [e10, cond_false, fc, w17, s40, Option.bind_some, show decide (nI 0 ≠ (0 : Int32)) = false from by decide, d00, hM.I, t2, f1']
          rfl
        · rw [if_neg hf]
          obtain ⟨z3, z4, z5⟩ := fcM_3 hf
          have to65 : ∀ rr, ur_at ur_G (d + 2) 151 (65, [some (.ref 208), some (.int (nI w)), some (.int 1), some (.int (nI (fcM q i))), some (.int 0), some (.int 0)], [], (s, f, g, R)) = some rr → mAt s R d 11 w 1 f g = some rr := fun rr hr => by
            refine e_X10_reads_11 _ _ _ _ ?_
            simp only [e10, cond_false, fc, w17, s40, Option.bind_some, decide_eq_true (show nI (fcM q i) ≠ 0 from nI_ne0 (by omega) (by omega)), cond_true]
            exact hr
          by_cases hw5 : 5 ≤ w
          · rw [if_pos hw5]
            exact ⟨_, g, to65 _ (deep _ _ _ hw5), ur_us, tfl _, eqL.refl⟩
          · rw [if_neg hw5]
            refine leaf _ 0 0 0 (by omega) hw5 (fun rr hr => to65 rr (e_X10_reads_65 _ _ _ _ _ _ _ ?_))
            rw [nw5, decide_eq_false hw5, Bool.not_false, cond_true, d00, cond_false, e00, cond_true, decide_eq_false (nI_nle (show 0 < fcM q i by omega) (show fcM q i < 2 ^ 31 by omega)), cond_false]
            exact hr
/-- a PART or a level -/
theorem m_sub (hP : mPA s R q k) (hL : mLA s R q k) (hm : m < 4) (hw : w ≤ 5) (hbs : bsD O w = w) (hfu : 10 * (q.1 - i) + (4 - (m + 1)) < k) (h : mSt f g q i c w O B) (hc : c.length ≤ i) (hb : m + 1 ≤ 1 → B w = false) (r : List Int32) : mER s R q d w 1 f g w O B true (pE q k (m + 1) w i r c (B w)) := by
  by_cases e3 : m = 3
  · subst e3
    have := hP d w i r c (B w) f g O B hw (by omega) h hc
    rw [hbs] at this
    cases hp : pE q k 4 w i r c (B w) with
    | inl F => rw [hp] at this; exact this
    | inr x =>
      rw [hp] at this
      have hf := pE_fl k 4 w i r c (B w) x (by omega) hp
      obtain ⟨f1, g1, z1, z2⟩ := this
      refine ⟨f1, g1, ?_, z2⟩
      rw [cond_true, hf, upA_id]
      exact z1
  · exact hL d (m + 1) w i r c f g O B (by omega) hw hbs hfu h hc hb
theorem m_LA {n : Nat} (hP : mPA s R q n) (hL : mLA s R q n) (hl : mLO s R q n) : mLA s R q (n + 1) := by
  intro d m w i r c f g O B hm hw hbs hfu h hc hb
  rw [pE_lv hm]
  have sub := m_sub (d := d) hP hL hm hw hbs (by omega) h hc (fun z => hb (by omega)) r
  cases hp : pE q n (m + 1) w i r c (B w) with
  | inl F =>
    rw [hp] at sub
    exact sub
  | inr x =>
    rw [hp] at sub
    obtain ⟨f1, g1, y, z1, z2, z3⟩ := sub
    rw [cond_true] at y
    have pr := pE_pr n (m + 1) w i r c (B w) x h.1.le (by omega) hp
    have hlt := pr.2.2.1 (by omega)
    have hx : exF (m + 1) (kdT q x.1) (upA B w x.2.2.2 w) := by
      rw [upA_s]
      by_cases e3 : m = 3
      · subst e3
        exact ⟨fun z => absurd z (by omega), fun z => absurd z (by omega), fun z => absurd z (by omega), fun z => absurd z (by omega)⟩
      · exact (pE_ex n (m + 1) w i r c (B w) x (by omega)).1 hp
    have h1 : m = 1 → upA B w x.2.2.2 w = false := fun e => by
      subst e
      rw [upA_s, pE_fl n 2 w i r c (B w) x (Or.inl rfl) hp]
      exact hb (by omega)
    have lo := hl d m w x.1 x.2.1 x.2.2.1 f1 g1 O (upA B w x.2.2.2) hm hw hbs (by omega) y (by omega) hx h1
    rw [upA_s] at lo
    show mER s R q d w 1 f g w O B true (pE q n (m + 5) w x.1 x.2.1 x.2.2.1 x.2.2.2)
    cases hp2 : pE q n (m + 5) w x.1 x.2.1 x.2.2.1 x.2.2.2 with
    | inl F =>
      rw [hp2] at lo
      obtain ⟨f2, g2, a1, a2, a3, a4⟩ := lo
      exact ⟨f2, g2, z3 _ a1, a2, z1.trans a3, z2.trans a4⟩
    | inr x2 =>
      rw [hp2] at lo
      obtain ⟨f2, g2, a1, a2, a3, a4⟩ := lo
      rw [cond_true, upA_uu] at a1
      exact ⟨f2, g2, a1, z1.trans a2, z2.trans a3, fun rr hr => z3 rr (a4 rr hr)⟩
theorem m_LO (hM : oModel s R 208) {n : Nat} (hP : mPA s R q n) (hL : mLA s R q n) (hl : mLO s R q n) : mLO s R q (n + 1) := by
  intro d m w i r c f g O B hm hw hbs hfu h hc hx hb
  rw [pE_lp hm]
  by_cases hlv : lvO (kdT q i) = m
  · rw [if_pos hlv]
    have hn := tk_next h.1.le
    have hlt := hn.2.1 (lvO_1 hlv hm).1
    obtain ⟨f1, g1, o1, o2, o3, o4⟩ := m_op (d := d) hM h hw hc hlv hm hb
    have sub := m_sub (d := d) hP hL hm hw hbs (by omega) o1 (by simp only [List.length_append, List.length_cons, List.length_nil]; omega) (fun z => by rw [upA_s, show m = 0 by omega]; rfl) r
    rw [upA_s] at sub
    cases hp : pE q n (m + 1) w (enT q i) r (c ++ [nI (opC (kdT q i))]) (flC m (B w)) with
    | inl F =>
      rw [hp] at sub
      obtain ⟨f2, g2, a1, a2, a3, a4⟩ := sub
      exact ⟨f2, g2, o4 _ a1, a2, o2.trans a3, o3.trans a4⟩
    | inr x =>
      rw [hp] at sub
      obtain ⟨f2, g2, y, z1, z2, z3⟩ := sub
      rw [cond_true, upA_uu] at y
      have pr := pE_pr n (m + 1) w (enT q i) r (c ++ [nI (opC (kdT q i))]) (flC m (B w)) x hn.1 (by omega) hp
      have hlt2 := pr.2.2.1 (by omega)
      have hcl := pr.2.2.2.2.1
      simp only [List.length_append, List.length_cons, List.length_nil] at hcl
      show mER s R q d w 0 f g w O B true (if m = 1 then .inr (x.1, x.2.1 ++ [-nI (kdT q i)], x.2.2.1, x.2.2.2) else pE q n (m + 5) w x.1 (x.2.1 ++ [-nI (kdT q i)]) x.2.2.1 x.2.2.2)
      by_cases e1 : m = 1
      · rw [if_pos e1]
        exact ⟨f2, g2, y, o2.trans z1, o3.trans z2, fun rr hr => o4 rr (z3 rr hr)⟩
      · rw [if_neg e1]
        have hx2 : exF (m + 1) (kdT q x.1) (upA B w x.2.2.2 w) := by
          rw [upA_s]
          by_cases e3 : m = 3
          · subst e3
            exact ⟨fun z => absurd z (by omega), fun z => absurd z (by omega), fun z => absurd z (by omega), fun z => absurd z (by omega)⟩
          · exact (pE_ex n (m + 1) w _ _ _ _ x (by omega)).1 hp
        have lo := hl d m w x.1 (x.2.1 ++ [-nI (kdT q i)]) x.2.2.1 f2 g2 O (upA B w x.2.2.2) hm hw hbs (by omega) y (by omega) hx2 (fun e => absurd e e1)
        rw [upA_s] at lo
        cases hp2 : pE q n (m + 5) w x.1 (x.2.1 ++ [-nI (kdT q i)]) x.2.2.1 x.2.2.2 with
        | inl F =>
          rw [hp2] at lo
          obtain ⟨f3, g3, a1, a2, a3, a4⟩ := lo
          exact ⟨f3, g3, o4 _ (z3 _ a1), a2, (o2.trans z1).trans a3, (o3.trans z2).trans a4⟩
        | inr x2 =>
          rw [hp2] at lo
          obtain ⟨f3, g3, a1, a2, a3, a4⟩ := lo
          rw [cond_true, upA_uu] at a1
          exact ⟨f3, g3, a1, (o2.trans z1).trans a2, (o3.trans z2).trans a3, fun rr hr => o4 rr (z3 rr (a4 rr hr))⟩
  · rw [if_neg hlv]
    refine ⟨f, g, ?_, eqT.refl, eqL.refl, fun rr hr => hr⟩
    rw [cond_true, upA_id]
    exact h
theorem m_E (hM : oModel s R 208) : ∀ n, mPA s R q n ∧ mLA s R q n ∧ mLO s R q n := by
  intro n
  induction n with
  | zero => exact ⟨fun _ _ _ _ _ _ _ _ _ _ _ h => absurd h (by omega), fun _ _ _ _ _ _ _ _ _ _ _ _ _ h => absurd h (by omega), fun _ _ _ _ _ _ _ _ _ _ _ _ _ h => absurd h (by omega)⟩
  | succ n ih =>
    obtain ⟨h1, h2, h3⟩ := ih
    exact ⟨m_PA hM h1 h2, m_LA h1 h2 h3, m_LO hM h1 h2 h3⟩
end UREF

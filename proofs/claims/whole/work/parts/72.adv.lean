/-! THE CLASS READS TOKENS, going on -/
def cT (f : Nat → Nat → Int32) (g : Nat → Nat → Int64) (q : Nat × (Nat → Nat)) (i : Nat) : Prop := f 1 2 = nI (enT q i) ∧ f 1 3 = nI (bgT q i) ∧ f 1 4 = nI (kdT q i) ∧ (isW (kdT q i) → g 1 5 = lN (wN 32 (wlT q i))) ∧ (kdT q i = 2 → f 1 6 = nI (nmT q i))
def TAx : Nat → Nat → Prop := fun a k => a = 1 ∧ 2 ≤ k ∧ k ≤ 6
/-- the tape of the class, its signs below 128 -/
def tpX (f : Nat → Nat → Int32) (q : Nat × (Nat → Nat)) : Prop := tpC f 1 2 1 q ∧ ∀ k, k < q.1 → q.2 k < 128
theorem tpX.fr {f f' : Nat → Nat → Int32} {q : Nat × (Nat → Nat)} {T : Nat → Nat → Prop} (h : tpX f q) (t : eqT T f f') (hd : ¬ T 1 1 ∧ ∀ k, ¬ T 2 k) : tpX f' q := ⟨h.1.fr t hd, h.2⟩
theorem TAx_d : ¬ TAx 1 1 ∧ ∀ k, ¬ TAx 2 k := ⟨by unfold TAx; omega, fun k => by unfold TAx; omega⟩
section URAD
variable {s : List (Nat ⊕ (Nat × Nat))} {f f' f1 f2 : Nat → Nat → Int32} {g g' : Nat → Nat → Int64} {R : Nat → Nat → Option Nat} {d b j n k a i e c : Nat} {q : Nat × (Nat → Nat)}
theorem c_lt {m : Nat} (hc : c < 128) (hm : m < 2 ^ 31) : decide (nI c < nI m) = decide (c < m) := d_lt (by omega) hm
theorem isLt_d (hc : c < 128) : isLt c = (!decide (nI c < (97 : Int32)) && !decide ((122 : Int32) < nI c)) := (by decide +kernel : ∀ c, c < 128 → isLt c = (!decide (nI c < (97 : Int32)) && !decide ((122 : Int32) < nI c))) c hc
theorem isDg_d (hc : c < 128) : isDg c = (!decide (nI c < (48 : Int32)) && !decide ((57 : Int32) < nI c)) := (by decide +kernel : ∀ c, c < 128 → isDg c = (!decide (nI c < (48 : Int32)) && !decide ((57 : Int32) < nI c))) c hc
theorem isBl_d (hc : c < 128) : isBl c = (decide (nI c = (32 : Int32)) || !decide (nI c ≠ (10 : Int32))) := (by decide +kernel : ∀ c, c < 128 → isBl c = (decide (nI c = (32 : Int32)) || !decide (nI c ≠ (10 : Int32)))) c hc
theorem tpX.at (h : tpX f q) (hk : k < q.1) : f (1 + 1) k = nI (q.2 k) := h.1.2.2 k hk
theorem tpX.len (h : tpX f q) : f 1 1 = nI q.1 := h.1.1
theorem tpX.le (h : tpX f q) : q.1 ≤ 1000 := h.1.2.1
theorem x_takeWord (hO : oTape s R 1) (hS : s.length ≤ 1000) (ht : tpX f q) (hb : b ≤ q.1) (e2 : f 1 2 = nI b) (e3 : f 1 3 = nI b) : ∃ f', ur_call ur_G (d + 7) 75 [.ref 1] (s, f, g, R) = some (0, (s, f', ur_u g 1 5 (lN (wN 32 (lwT q b (ruE q isLt b - b)))), R)) ∧ f' 1 2 = nI (ruE q isLt b) ∧ f' 1 3 = nI b ∧ f' 1 4 = nI (bif decide (ruE q isLt b - b ≤ 8) then kwK (lwT q b (ruE q isLt b - b)) else 0) ∧ eqT TAx f f' := by
  obtain ⟨r1, r2, r3, r4⟩ := ruE_of (q := q) (p := isLt) (i := b) hb
  obtain ⟨e, he⟩ : ∃ e, e = ruE q isLt b := ⟨_, rfl⟩
  rw [← he] at r1 r2 r3 r4 ⊢
  have hle := ht.le
  -- its end
  have fin : ∀ f1, f1 1 2 = nI e → f1 1 3 = nI b → eqT TAx f f1 → ∃ f', ur_at ur_G (d + 6) 75 (85, [some (.ref 1), none], [], (s, f1, ur_u g 1 5 (lN (wN 32 (lwT q b (e - b)))), R)) = some (0, (s, f', ur_u g 1 5 (lN (wN 32 (lwT q b (e - b)))), R)) ∧ f' 1 2 = nI e ∧ f' 1 3 = nI b ∧ f' 1 4 = nI (bif decide (e - b ≤ 8) then kwK (lwT q b (e - b)) else 0) ∧ eqT TAx f f' := by
    intro f1 h2 h3 t1
    have u2 : ∀ v, ur_u f1 1 4 v 1 2 = nI e := fun v => by rw [ur_un (by decide), h2]
    have u3 : ∀ v, ur_u f1 1 4 v 1 3 = nI b := fun v => by rw [ur_un (by decide), h3]
    have sub : nI e - nI b = nI (e - b) := pk_sub r1
    have d8 : decide (nI (e - b) ≤ (8 : Int32)) = decide (e - b ≤ 8) := d_le (b := 8) (by omega) (by decide)
    have hn := u_num0 (d := d) (f := f1) (g := ur_u g 1 5 (lN (wN 32 (lwT q b (e - b))))) (R := R) (u := lN (wN 32 (lwT q b (e - b)))) hS
    have tt : ∀ v, eqT TAx f (ur_u f1 1 4 v) := fun v => t1.u ⟨rfl, by decide, by decide⟩
    by_cases h8 : e - b ≤ 8
    · have ok : okW (lwT q b (e - b)) := lwT_ok h8 (fun j hj => r3 _ (by omega) (by omega))
      rw [fiI_w kwl 0 _ kwl_ok ok, show kwl.length = 20 from rfl, Nat.zero_add] at hn
      unfold kwK
      rw [decide_eq_true h8, cond_true]
      by_cases hk : ixW kwl (lwT q b (e - b)) < 20
      · rw [decide_eq_true hk, cond_true] at hn ⊢
        refine ⟨ur_u f1 1 4 (nI (100 + ixW kwl (lwT q b (e - b)))), e_X8_takeWord_85 _ _ ?_, u2 _, u3 _, ur_us, tt _⟩
        simp only [hO.L, ur_usg, Option.bind_some, hn, decide_eq_true (show nI (ixW kwl (lwT q b (e - b))) ≠ -1 from nI_ne_m1 (by omega)), cond_true, show (100 : Int32) + nI (ixW kwl (lwT q b (e - b))) = nI (100 + ixW kwl (lwT q b (e - b))) from nI_add 100 _, hO.pI, hO.I, u2, u3, sub, d8, decide_eq_true h8]
      · rw [decide_eq_false hk, cond_false] at hn ⊢
        refine ⟨ur_u f1 1 4 3, e_X8_takeWord_85 _ _ ?_, u2 _, u3 _, ur_us, tt _⟩
        simp only [hO.L, ur_usg, Option.bind_some, hn, show decide ((-1 : Int32) ≠ -1) = false from by decide, cond_false, hO.pI, hO.I, u2, u3, sub, d8, decide_eq_true h8, cond_true]
    · rw [decide_eq_false h8, cond_false]
      refine ⟨ur_u f1 1 4 0, e_X8_takeWord_85 _ _ ?_, u2 _, u3 _, ur_us, tt _⟩
      simp only [hO.L, ur_usg, Option.bind_some, hn, hO.pI, hO.I, u2, u3, sub, d8, decide_eq_false h8, cond_false, ur_uu]
      cases decide (fiI kwl 0 (lN (wN 32 (lwT q b (e - b)))) ≠ -1) <;> rfl
  have loop : ∀ (n k : Nat) (f1 : Nat → Nat → Int32), n + k = e - b → f1 1 2 = nI (b + k) → f1 1 3 = nI b → eqT TAx f f1 → ∃ f', ur_at ur_G (d + 6) 75 (5, [some (.ref 1), none], [], (s, f1, ur_u g 1 5 (lN (wN 32 (lwT q b k))), R)) = some (0, (s, f', ur_u g 1 5 (lN (wN 32 (lwT q b (e - b)))), R)) ∧ f' 1 2 = nI e ∧ f' 1 3 = nI b ∧ f' 1 4 = nI (bif decide (e - b ≤ 8) then kwK (lwT q b (e - b)) else 0) ∧ eqT TAx f f' := by
    intro n
    induction n with
    | zero =>
      intro k f1 hk h2 h3 t1
      have hbe : b + k = e := by omega
      rw [hbe] at h2
      rw [show k = e - b by omega]
      have ht1 := ht.fr t1 TAx_d
      obtain ⟨f', x1, x2⟩ := fin f1 h2 h3 t1
      refine ⟨f', e_X8_takeWord_5 _ _ ?_, x2⟩
      by_cases hq : e < q.1
      · have hc := r4 hq
        have c128 := ht1.2 e hq
        rw [isLt_d c128] at hc
        have a1 := hO.a1 (f := f1) (g := ur_u g 1 5 (lN (wN 32 (lwT q b (e - b))))) (show e < 1000 by omega)
        simp only [hO.I, Option.bind_some, h2, ht1.len, d_le (show q.1 < 2 ^ 31 by omega) (show e < 2 ^ 31 by omega), decide_eq_false (show ¬ q.1 ≤ e by omega), cond_false, hO.r0, a1, ht1.at hq]
        cases h97 : decide (nI (q.2 e) < (97 : Int32)) with
        | true => simp only [cond_true]; exact x1
        | false =>
          rw [h97] at hc
          have : decide ((122 : Int32) < nI (q.2 e)) = true := by
            cases h122 : decide ((122 : Int32) < nI (q.2 e)) with
            | true => rfl
            | false => rw [h122] at hc; cases hc
          simp only [cond_false, this, cond_true]
          exact x1
      · simp only [hO.I, Option.bind_some, h2, ht1.len, d_le (show q.1 < 2 ^ 31 by omega) (show e < 2 ^ 31 by omega), decide_eq_true (show q.1 ≤ e by omega), cond_true]
        exact x1
    | succ n ih =>
      intro k f1 hk h2 h3 t1
      have ht1 := ht.fr t1 TAx_d
      have hq : b + k < q.1 := by omega
      have hc := r3 (b + k) (by omega) (by omega)
      have c128 := ht1.2 (b + k) hq
      have hl := hc
      rw [isLt_d c128, Bool.and_eq_true, Bool.not_eq_true', Bool.not_eq_true'] at hc
      unfold isLt at hl
      rw [Bool.and_eq_true, decide_eq_true_eq, decide_eq_true_eq] at hl
      obtain ⟨f', x1, x2⟩ := ih (k + 1) (ur_u f1 1 2 (nI (b + k + 1))) (by omega) (by rw [ur_us]; rfl) (by rw [ur_un (by decide), h3]) (t1.u ⟨rfl, by decide, by decide⟩)
      refine ⟨f', e_X8_takeWord_5 _ _ ?_, x2⟩
      have a1 := fun G => hO.a1 (f := f1) (g := G) (show b + k < 1000 by omega)
      have val : lN (wN 32 (lwT q b k)) * (32 : Int64) + ((nI (q.2 (b + k)) - (97 : Int32)) + (1 : Int32)).toInt64 = lN (wN 32 (lwT q b (k + 1))) := by
        rw [show (97 : Int32) = nI 97 from rfl, pk_sub hl.1, nI_1, nI_l (by omega), show (32 : Int64) = lN 32 from rfl, lN_mul, lN_add, lwT_s, show q.2 (b + k) - 97 + 1 = q.2 (b + k) - 96 by omega]
      simp only [hO.I, hO.L, hO.pL, hO.pI, Option.bind_some, h2, ht1.len, d_le (show q.1 < 2 ^ 31 by omega) (show b + k < 2 ^ 31 by omega), decide_eq_false (show ¬ q.1 ≤ b + k by omega), cond_false, hO.r0, a1, ht1.at hq, hc.1, hc.2, ur_usg, val, ur_uu, nI_1]
      exact x1
  obtain ⟨f', x1, x2⟩ := loop (e - b) 0 f (by omega) e2 e3 eqT.refl
  refine ⟨f', ur_cl hO.rcv rfl (e_X8_takeWord_0 _ _ ?_), x2⟩
  rw [hO.pL, Option.bind_some]
  exact x1
theorem x_takeDigits (hO : oTape s R 1) (ht : tpX f q) (hb : b ≤ q.1) (e2 : f 1 2 = nI b) (e3 : f 1 3 = nI b) : ∃ f', ur_call ur_G (d + 1) 76 [.ref 1] (s, f, g, R) = some (0, (s, f', g, R)) ∧ f' 1 2 = nI (ruE q isDg b) ∧ f' 1 3 = nI b ∧ f' 1 4 = nI (bif decide (ruE q isDg b - b ≤ 4) then 2 else 0) ∧ f' 1 6 = nI (nmD q b (ruE q isDg b - b)) ∧ eqT TAx f f' := by
  obtain ⟨r1, r2, r3, r4⟩ := ruE_of (q := q) (p := isDg) (i := b) hb
  obtain ⟨e, he⟩ : ∃ e, e = ruE q isDg b := ⟨_, rfl⟩
  rw [← he] at r1 r2 r3 r4 ⊢
  have hle := ht.le
  have fin : ∀ f1, f1 1 2 = nI e → f1 1 3 = nI b → f1 1 6 = nI (nmD q b (e - b)) → eqT TAx f f1 → ∃ f', ur_at ur_G d 76 (81, [some (.ref 1)], [], (s, f1, g, R)) = some (0, (s, f', g, R)) ∧ f' 1 2 = nI e ∧ f' 1 3 = nI b ∧ f' 1 4 = nI (bif decide (e - b ≤ 4) then 2 else 0) ∧ f' 1 6 = nI (nmD q b (e - b)) ∧ eqT TAx f f' := by
    intro f1 h2 h3 h6 t1
    have sub : nI e - nI b = nI (e - b) := pk_sub r1
    have d4 : decide (nI (e - b) ≤ (4 : Int32)) = decide (e - b ≤ 4) := d_le (b := 4) (by omega) (by decide)
    refine ⟨ur_u f1 1 4 (nI (bif decide (e - b ≤ 4) then 2 else 0)), e_X8_takeDigits_81 _ _ ?_, by rw [ur_un (by decide), h2], by rw [ur_un (by decide), h3], ur_us, by rw [ur_un (by decide), h6], t1.u ⟨rfl, by decide, by decide⟩⟩
    simp only [hO.I, hO.pI, Option.bind_some, h2, h3, sub, d4]
    cases decide (e - b ≤ 4) <;> rfl
  have loop : ∀ (n k : Nat) (f1 : Nat → Nat → Int32), n + k = e - b → f1 1 2 = nI (b + k) → f1 1 3 = nI b → f1 1 6 = nI (nmD q b k) → eqT TAx f f1 → ∃ f', ur_at ur_G d 76 (5, [some (.ref 1)], [], (s, f1, g, R)) = some (0, (s, f', g, R)) ∧ f' 1 2 = nI e ∧ f' 1 3 = nI b ∧ f' 1 4 = nI (bif decide (e - b ≤ 4) then 2 else 0) ∧ f' 1 6 = nI (nmD q b (e - b)) ∧ eqT TAx f f' := by
    intro n
    induction n with
    | zero =>
      intro k f1 hk h2 h3 h6 t1
      have hbe : b + k = e := by omega
      rw [hbe] at h2
      rw [show k = e - b by omega] at h6
      have ht1 := ht.fr t1 TAx_d
      obtain ⟨f', x1, x2⟩ := fin f1 h2 h3 h6 t1
      refine ⟨f', e_X8_takeDigits_5 _ _ ?_, x2⟩
      by_cases hq : e < q.1
      · have hc := r4 hq
        have c128 := ht1.2 e hq
        rw [isDg_d c128] at hc
        have a1 := hO.a1 (f := f1) (g := g) (show e < 1000 by omega)
        simp only [hO.I, Option.bind_some, h2, ht1.len, d_le (show q.1 < 2 ^ 31 by omega) (show e < 2 ^ 31 by omega), decide_eq_false (show ¬ q.1 ≤ e by omega), cond_false, hO.r0, a1, ht1.at hq]
        cases h97 : decide (nI (q.2 e) < (48 : Int32)) with
        | true => simp only [cond_true]; exact x1
        | false =>
          rw [h97] at hc
          have : decide ((57 : Int32) < nI (q.2 e)) = true := by
            cases h122 : decide ((57 : Int32) < nI (q.2 e)) with
            | true => rfl
            | false => rw [h122] at hc; cases hc
          simp only [cond_false, this, cond_true]
          exact x1
      · simp only [hO.I, Option.bind_some, h2, ht1.len, d_le (show q.1 < 2 ^ 31 by omega) (show e < 2 ^ 31 by omega), decide_eq_true (show q.1 ≤ e by omega), cond_true]
        exact x1
    | succ n ih =>
      intro k f1 hk h2 h3 h6 t1
      have ht1 := ht.fr t1 TAx_d
      have hq : b + k < q.1 := by omega
      have hc := r3 (b + k) (by omega) (by omega)
      have c128 := ht1.2 (b + k) hq
      have hl := hc
      rw [isDg_d c128, Bool.and_eq_true, Bool.not_eq_true', Bool.not_eq_true'] at hc
      unfold isDg at hl
      rw [Bool.and_eq_true, decide_eq_true_eq, decide_eq_true_eq] at hl
      have val : nI (nmD q b k) * (10 : Int32) + (nI (q.2 (b + k)) - (48 : Int32)) = nI (nmD q b (k + 1)) := by
        rw [show (48 : Int32) = nI 48 from rfl, pk_sub hl.1, show (10 : Int32) = nI 10 from rfl, pk_mul, nI_add]
        rfl
      obtain ⟨f', x1, x2⟩ := ih (k + 1) (ur_u (ur_u f1 1 6 (nI (nmD q b (k + 1)))) 1 2 (nI (b + k + 1))) (by omega) (by rw [ur_us]; rfl) (by rw [ur_un (by decide), ur_un (by decide), h3]) (by rw [ur_un (by decide), ur_us]) ((t1.u ⟨rfl, by decide, by decide⟩).u ⟨rfl, by decide, by decide⟩)
      refine ⟨f', e_X8_takeDigits_5 _ _ ?_, x2⟩
      have a1 := hO.a1 (f := f1) (g := g) (show b + k < 1000 by omega)
      have u2 : ur_u f1 1 6 (nI (nmD q b (k + 1))) 1 2 = nI (b + k) := by rw [ur_un (by decide), h2]
      simp only [hO.I, hO.pI, Option.bind_some, h2, ht1.len, d_le (show q.1 < 2 ^ 31 by omega) (show b + k < 2 ^ 31 by omega), decide_eq_false (show ¬ q.1 ≤ b + k by omega), cond_false, hO.r0, a1, ht1.at hq, hc.1, hc.2, h6, val, u2, nI_1]
      exact x1
  obtain ⟨f', x1, x2⟩ := loop (e - b) 0 (ur_u f 1 6 0) (by omega) (by rw [ur_un (by decide), e2]; rfl) (by rw [ur_un (by decide), e3]) (by rw [ur_us]; rfl) (eqT_u ⟨rfl, by decide, by decide⟩)
  refine ⟨f', ur_cl hO.rcv rfl (e_X8_takeDigits_0 _ _ ?_), x2⟩
  rw [hO.pI, Option.bind_some]
  exact x1
theorem x_advance (hO : oTape s R 1) (hS : s.length ≤ 1000) (ht : tpX f q) (hi : i ≤ q.1) (e2 : f 1 2 = nI i) : ∃ f' w, ur_call ur_G (d + 8) 74 [.ref 1] (s, f, g, R) = some (0, (s, f', ur_u g 1 5 w, R)) ∧ cT f' (ur_u g 1 5 w) q i ∧ eqT TAx f f' := by
  obtain ⟨r1, r2, r3, r4⟩ := ruE_of (q := q) (p := isBl) (i := i) hi
  have hbg : bgT q i = ruE q isBl i := rfl
  obtain ⟨b, hb⟩ : ∃ b, b = bgT q i := ⟨_, rfl⟩
  rw [← hbg, ← hb] at r1 r2 r3 r4
  have hle := ht.le
  have hen : enT q i = enB q b := by unfold enT; rw [hb]
  have hkd : kdT q i = kdB q b := by unfold kdT; rw [hb]
  -- behind the blanks
  have fin : ∀ f1, f1 1 2 = nI b → eqT TAx f f1 → ∃ f' w, ur_at ur_G (d + 7) 74 (52, [some (.ref 1)], [], (s, f1, g, R)) = some (0, (s, f', ur_u g 1 5 w, R)) ∧ cT f' (ur_u g 1 5 w) q i ∧ eqT TAx f f' := by
    intro f1 h2 t1
    obtain ⟨f2, hf2⟩ : ∃ f2, f2 = ur_u f1 1 3 (nI b) := ⟨_, rfl⟩
    have t2 : eqT TAx f f2 := by rw [hf2]; exact t1.u ⟨rfl, by decide, by decide⟩
    have ht2 := ht.fr t2 TAx_d
    have g2 : f2 1 2 = nI b := by rw [hf2, ur_un (by decide), h2]
    have g3 : f2 1 3 = nI b := by rw [hf2, ur_us]
    by_cases hq : b < q.1
    · have c128 := ht2.2 b hq
      have a1 := hO.a1 (f := f2) (g := g) (show b < 1000 by omega)
      have head : ∀ r, (bif isLt (q.2 b) then ((ur_call ur_G (d + 7) 75 [.ref 1] (s, f2, g, R)).bind fun q11 => some (0, q11.2)) else bif isDg (q.2 b) then ((ur_call ur_G (d + 7) 76 [.ref 1] (s, f2, g, R)).bind fun q7 => some (0, q7.2)) else ur_at ur_G (d + 7) 74 (149, [some (.ref 1)], [], (s, f2, g, R))) = some r → ur_at ur_G (d + 7) 74 (52, [some (.ref 1)], [], (s, f1, g, R)) = some r := fun r hr => by
        have n114 : (bif isDg (q.2 b) then ((ur_call ur_G (d + 7) 76 [.ref 1] (s, f2, g, R)).bind fun q7 => some (0, q7.2)) else ur_at ur_G (d + 7) 74 (149, [some (.ref 1)], [], (s, f2, g, R))) = some r → ur_at ur_G (d + 7) 74 (114, [some (.ref 1)], [], (s, f2, g, R)) = some r := fun h => by
          refine e_X8_advance_114 _ _ ?_
          rw [isDg_d c128] at h
          simp only [hO.r0, hO.I, Option.bind_some, g2, a1, ht2.at hq]
          revert h
          cases decide (nI (q.2 b) < (48 : Int32)) with
          | true => simp only [Bool.not_true, Bool.false_and, cond_false, cond_true]; exact fun h => h
          | false =>
            cases decide ((57 : Int32) < nI (q.2 b)) with
            | true => simp only [Bool.not_true, Bool.not_false, Bool.and_false, cond_false, cond_true]; exact fun h => h
            | false => simp only [Bool.not_false, Bool.and_self, cond_false, cond_true]; exact fun h => h
        refine e_X8_advance_52 _ _ ?_
        rw [isLt_d c128] at hr
        simp only [hO.I, hO.pI, Option.bind_some, h2, ← hf2, g2, ht2.len, d_lt (show b < 2 ^ 31 by omega) (show q.1 < 2 ^ 31 by omega), decide_eq_true hq, cond_true, hO.r0, a1, ht2.at hq]
        revert hr
        cases decide (nI (q.2 b) < (97 : Int32)) with
        | true => simp only [Bool.not_true, Bool.false_and, cond_false, cond_true]; exact n114
        | false =>
          cases decide ((122 : Int32) < nI (q.2 b)) with
          | true => simp only [Bool.not_true, Bool.not_false, Bool.and_false, cond_false, cond_true]; exact n114
          | false => simp only [Bool.not_false, Bool.and_self, cond_false, cond_true]; exact fun h => h
      cases hL : isLt (q.2 b) with
      | true =>
        obtain ⟨f3, x1, x2, x3, x4, x5⟩ := x_takeWord (d := d) (g := g) hO hS ht2 r2 g2 g3
        have en : enB q b = ruE q isLt b := by unfold enB; rw [decide_eq_false (by omega), cond_false, hL, cond_true]
        have kd : kdB q b = bif decide (ruE q isLt b - b ≤ 8) then kwK (lwT q b (ruE q isLt b - b)) else 0 := by unfold kdB; rw [decide_eq_false (by omega), cond_false, hL, cond_true]
        refine ⟨f3, lN (wN 32 (lwT q b (ruE q isLt b - b))), head _ ?_, ⟨by rw [x2, hen, en], by rw [x3, hb], by rw [x4, hkd, kd], fun _ => ?_, fun z => ?_⟩, t2.trans x5⟩
        · rw [hL, cond_true, x1, Option.bind_some]
        · rw [ur_usg]
          unfold wlT
          rw [hen, en, ← hb]
        · exfalso
          rw [hkd, kd] at z
          revert z
          cases decide (ruE q isLt b - b ≤ 8) with
          | true => rw [cond_true]; have := kwK_v (lwT q b (ruE q isLt b - b)); omega
          | false => rw [cond_false]; omega
      | false =>
        cases hD : isDg (q.2 b) with
        | true =>
          obtain ⟨f3, x1, x2, x3, x4, x5, x6⟩ := x_takeDigits (d := d + 6) (g := g) hO ht2 r2 g2 g3
          have en : enB q b = ruE q isDg b := by unfold enB; rw [decide_eq_false (by omega), cond_false, hL, cond_false, hD, cond_true]
          have kd : kdB q b = bif decide (ruE q isDg b - b ≤ 4) then 2 else 0 := by unfold kdB; rw [decide_eq_false (by omega), cond_false, hL, cond_false, hD, cond_true]
          refine ⟨f3, g 1 5, head _ ?_, ⟨by rw [x2, hen, en], by rw [x3, hb], by rw [x4, hkd, kd], fun z => ?_, fun z => ?_⟩, t2.trans x6⟩
          · rw [hL, cond_false, hD, cond_true, x1, Option.bind_some, ur_uid rfl]
          · exfalso
            rw [hkd, kd] at z
            unfold isW at z
            revert z
            cases decide (ruE q isDg b - b ≤ 4) <;> simp
          · rw [x5]
            unfold nmT
            rw [hen, en, ← hb]
        | false =>
          have en : enB q b = b + 1 := by unfold enB; rw [decide_eq_false (by omega), cond_false, hL, cond_false, hD, cond_false]
          have kd : kdB q b = bif sgC (q.2 b) then q.2 b else 0 := by unfold kdB; rw [decide_eq_false (by omega), cond_false, hL, cond_false, hD, cond_false]
          obtain ⟨v, v1, v2⟩ := u_ixs (d := d + 1) (f := f2) (g := g) (R := R) hS c128
          have nz : kdB q b < 100 ∧ kdB q b ≠ 2 ∧ kdB q b ≠ 3 := by
            rw [kd]
            cases hs : sgC (q.2 b) with
            | false => simp
            | true =>
              rw [cond_true]
              unfold sgC at hs
              simp only [Bool.or_eq_true, Bool.and_eq_true, decide_eq_true_eq] at hs
              omega
          refine ⟨ur_u (ur_u f2 1 4 (nI (kdB q b))) 1 2 (nI (b + 1)), g 1 5, head _ ?_, ⟨by rw [ur_us, hen, en], by rw [ur_un (by decide), ur_un (by decide), g3, hb], by rw [ur_un (by decide), ur_us, hkd], fun z => ?_, fun z => ?_⟩, (t2.u ⟨rfl, by decide, by decide⟩).u ⟨rfl, by decide, by decide⟩⟩
          · rw [hL, cond_false, hD, cond_false, ur_uid rfl]
            refine e_X8_advance_149 _ _ ?_
            have u2 : ∀ v, ur_u f2 1 4 v 1 2 = nI b := fun v => by rw [ur_un (by decide), g2]
            simp only [hO.r0, hO.I, hO.pI, Option.bind_some, g2, a1, ht2.at hq, v1, v2, u2, nI_1]
            rw [kd]
            cases sgC (q.2 b) <;> rfl
          · exfalso
            rw [hkd] at z
            unfold isW at z
            omega
          · exfalso
            rw [hkd] at z
            omega
    · have hqb : q.1 ≤ b := by omega
      have en : enB q b = b := by unfold enB; rw [decide_eq_true hqb, cond_true]
      have kd : kdB q b = 1 := kdB_1.mpr hqb
      refine ⟨ur_u f2 1 4 1, g 1 5, e_X8_advance_52 _ _ ?_, ⟨by rw [ur_un (by decide), g2, hen, en], by rw [ur_un (by decide), g3, hb], by rw [ur_us, hkd, kd]; rfl, fun z => ?_, fun z => ?_⟩, t2.u ⟨rfl, by decide, by decide⟩⟩
      · simp only [hO.I, hO.pI, Option.bind_some, h2, ← hf2, g2, ht2.len, d_lt (show b < 2 ^ 31 by omega) (show q.1 < 2 ^ 31 by omega), decide_eq_false hq, cond_false, ur_uid]
      · rw [hkd, kd] at z
        unfold isW at z
        omega
      · rw [hkd, kd] at z
        omega
  have loop : ∀ (n k : Nat) (f1 : Nat → Nat → Int32), n + k = b → i ≤ k → f1 1 2 = nI k → eqT TAx f f1 → ∃ f' w, ur_at ur_G (d + 7) 74 (0, [some (.ref 1)], [], (s, f1, g, R)) = some (0, (s, f', ur_u g 1 5 w, R)) ∧ cT f' (ur_u g 1 5 w) q i ∧ eqT TAx f f' := by
    intro n
    induction n with
    | zero =>
      intro k f1 hk hik h2 t1
      have : k = b := by omega
      subst this
      have ht1 := ht.fr t1 TAx_d
      obtain ⟨f', w, x1, x2⟩ := fin f1 h2 t1
      refine ⟨f', w, e_X8_advance_0 _ _ ?_, x2⟩
      by_cases hq : k < q.1
      · have hc := r4 hq
        have c128 := ht1.2 k hq
        rw [isBl_d c128] at hc
        have a1 := hO.a1 (f := f1) (g := g) (show k < 1000 by omega)
        simp only [hO.I, Option.bind_some, h2, ht1.len, d_le (show q.1 < 2 ^ 31 by omega) (show k < 2 ^ 31 by omega), decide_eq_false (show ¬ q.1 ≤ k by omega), cond_false, hO.r0, a1, ht1.at hq]
        cases h32 : decide (nI (q.2 k) = (32 : Int32)) with
        | true => rw [h32] at hc; cases hc
        | false =>
          rw [h32] at hc
          have : decide (nI (q.2 k) ≠ (10 : Int32)) = true := by
            cases h10 : decide (nI (q.2 k) ≠ (10 : Int32)) with
            | true => rfl
            | false => rw [h10] at hc; cases hc
          simp only [cond_false, this, cond_true]
          exact x1
      · simp only [hO.I, Option.bind_some, h2, ht1.len, d_le (show q.1 < 2 ^ 31 by omega) (show k < 2 ^ 31 by omega), decide_eq_true (show q.1 ≤ k by omega), cond_true]
        exact x1
    | succ n ih =>
      intro k f1 hk hik h2 t1
      have ht1 := ht.fr t1 TAx_d
      have hq : k < q.1 := by omega
      have hc := r3 k hik (by omega)
      have c128 := ht1.2 k hq
      rw [isBl_d c128] at hc
      obtain ⟨f', w, x1, x2⟩ := ih (k + 1) (ur_u f1 1 2 (nI (k + 1))) (by omega) (by omega) ur_us (t1.u ⟨rfl, by decide, by decide⟩)
      refine ⟨f', w, e_X8_advance_0 _ _ ?_, x2⟩
      have a1 := hO.a1 (f := f1) (g := g) (show k < 1000 by omega)
      simp only [hO.I, hO.pI, Option.bind_some, h2, ht1.len, d_le (show q.1 < 2 ^ 31 by omega) (show k < 2 ^ 31 by omega), decide_eq_false (show ¬ q.1 ≤ k by omega), cond_false, hO.r0, a1, ht1.at hq, nI_1]
      cases h32 : decide (nI (q.2 k) = (32 : Int32)) with
      | true => simp only [cond_true]; exact x1
      | false =>
        rw [h32] at hc
        have : decide (nI (q.2 k) ≠ (10 : Int32)) = false := by
          cases h10 : decide (nI (q.2 k) ≠ (10 : Int32)) with
          | false => rfl
          | true => rw [h10] at hc; cases hc
        simp only [cond_false, this]
        exact x1
  obtain ⟨f', w, x1, x2⟩ := loop (b - i) i f (by omega) (Nat.le_refl _) e2 eqT.refl
  exact ⟨f', w, ur_cl hO.rcv rfl x1, x2⟩
end URAD

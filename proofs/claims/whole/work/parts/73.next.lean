/-! THE REFERENCE READS TOKENS -/
def tkM (k : Nat) : Nat := bif decide (k = 1) then 0 else bif decide (k = 2) then 2 else bif decide (k = 0) then 4 else bif decide (k = 3) || decide (100 ≤ k) then 1 else 3
def mT (f : Nat → Nat → Int32) (g : Nat → Nat → Int64) (q : Nat × (Nat → Nat)) (i : Nat) : Prop := f 208 4 = nI (enT q i) ∧ f 208 5 = nI (bgT q i) ∧ f 208 6 = nI (tkM (kdT q i)) ∧ (isW (kdT q i) → g 208 7 = lN (wN 27 (wlT q i))) ∧ (kdT q i = 2 → f 208 8 = nI (nmT q i))
def tpM (f : Nat → Nat → Int32) (q : Nat × (Nat → Nat)) : Prop := f 208 3 = nI q.1 ∧ q.1 ≤ 1000 ∧ (∀ k, k < q.1 → f 209 k = nI (q.2 k)) ∧ ∀ k, k < q.1 → q.2 k < 128
def TBx : Nat → Nat → Prop := fun a k => a = 208 ∧ 4 ≤ k ∧ k ≤ 8
section URNX
variable {s : List (Nat ⊕ (Nat × Nat))} {f f' f1 f2 : Nat → Nat → Int32} {g g' : Nat → Nat → Int64} {R : Nat → Nat → Option Nat} {d b j n k a i e c : Nat} {q : Nat × (Nat → Nat)} {T : Nat → Nat → Prop}
theorem tpM.fr (h : tpM f q) (t : eqT T f f') (hd : ¬ T 208 3 ∧ ∀ k, ¬ T 209 k) : tpM f' q := ⟨by rw [t _ _ hd.1, h.1], h.2.1, fun k hk => by rw [t _ _ (hd.2 k), h.2.2.1 k hk], h.2.2.2⟩
theorem TBx_d : ¬ TBx 208 3 ∧ ∀ k, ¬ TBx 209 k := ⟨by unfold TBx; omega, fun k => by unfold TBx; omega⟩
theorem tpM.at (h : tpM f q) (hk : k < q.1) : f (208 + 1) k = nI (q.2 k) := h.2.2.1 k hk
theorem t_signAt (hM : oModel s R 208) (ht : tpM f q) (hk : k ≤ q.1) : ur_call ur_G (d + 1) 144 [.ref 208, .int (nI k)] (s, f, g, R) = some (nI (bif decide (k < q.1) then q.2 k else 0), (s, f, g, R)) := by
  have hle := ht.2.1
  refine ur_cl hM.rcv rfl (e_X10_signAt_0 _ _ _ ?_)
  by_cases h : k < q.1
  · have a1 := hM.a1 (f := f) (g := g) (show k < 1000 by omega)
    simp only [hM.I, Option.bind_some, ht.1, d_le (show q.1 < 2 ^ 31 by omega) (show k < 2 ^ 31 by omega), decide_eq_false (show ¬ q.1 ≤ k by omega), cond_false, hM.r2, a1, ht.at h, decide_eq_true h, cond_true]
  · simp only [hM.I, Option.bind_some, ht.1, d_le (show q.1 < 2 ^ 31 by omega) (show k < 2 ^ 31 by omega), decide_eq_true (show q.1 ≤ k by omega), cond_true, decide_eq_false h, cond_false]
    rfl
/-- the sign at a place, 0 behind the end -/
def sgA (q : Nat × (Nat → Nat)) (k : Nat) : Nat := bif decide (k < q.1) then q.2 k else 0
theorem sgA_lt (ht : tpM f q) : sgA q k < 128 := by
  unfold sgA
  by_cases h : k < q.1
  · rw [decide_eq_true h, cond_true]; exact ht.2.2.2 k h
  · rw [decide_eq_false h, cond_false]; decide
theorem m_word (hM : oModel s R 208) (ht : tpM f q) (hb : b ≤ q.1) (e4 : f 208 4 = nI b) (e5 : f 208 5 = nI b) : ∃ f' w, ur_at ur_G (d + 1) 145 (109, [some (.ref 208), none], [], (s, f, ur_u g 208 7 0, R)) = some (0, (s, f', ur_u g 208 7 w, R)) ∧ f' 208 4 = nI (ruE q isLt b) ∧ f' 208 5 = nI b ∧ f' 208 6 = nI (bif decide (ruE q isLt b - b ≤ 8) then 1 else 4) ∧ (ruE q isLt b - b ≤ 8 → w = lN (wN 27 (lwT q b (ruE q isLt b - b)))) ∧ eqT TBx f f' := by
  obtain ⟨r1, r2, r3, r4⟩ := ruE_of (q := q) (p := isLt) (i := b) hb
  obtain ⟨e, he⟩ : ∃ e, e = ruE q isLt b := ⟨_, rfl⟩
  rw [← he] at r1 r2 r3 r4 ⊢
  have hle := ht.2.1
  have go : ∀ (n k : Nat) (f1 : Nat → Nat → Int32) (w : Int64), n + k = e - b → f1 208 4 = nI (b + k) → f1 208 5 = nI b → w = lN (wN 27 (lwT q b (min k 8))) → eqT TBx f f1 → ∃ f' w', ur_at ur_G (d + 1) 145 (109, [some (.ref 208), none], [], (s, f1, ur_u g 208 7 w, R)) = some (0, (s, f', ur_u g 208 7 w', R)) ∧ f' 208 4 = nI e ∧ f' 208 5 = nI b ∧ f' 208 6 = nI (bif decide (e - b ≤ 8) then 1 else 4) ∧ (e - b ≤ 8 → w' = lN (wN 27 (lwT q b (e - b)))) ∧ eqT TBx f f' := by
    intro n
    induction n with
    | zero =>
      intro k f1 w hk h4 h5 hw t1
      have hbe : b + k = e := by omega
      have hke : k = e - b := by omega
      rw [hbe] at h4
      have ht1 := ht.fr t1 TBx_d
      have sub : nI e - nI b = nI (e - b) := pk_sub r1
      have d8 : decide (nI (e - b) ≤ (8 : Int32)) = decide (e - b ≤ 8) := d_le (b := 8) (by omega) (by decide)
      have last : ur_at ur_G (d + 1) 145 (188, [some (.ref 208), none], [], (s, f1, ur_u g 208 7 w, R)) = some (0, (s, ur_u f1 208 6 (nI (bif decide (e - b ≤ 8) then 1 else 4)), ur_u g 208 7 w, R)) := by
        refine e_X10_nextToken_188 _ _ ?_
        simp only [hM.I, hM.pI, Option.bind_some, h4, h5, sub, d8]
        cases decide (e - b ≤ 8) <;> rfl
      refine ⟨ur_u f1 208 6 (nI (bif decide (e - b ≤ 8) then 1 else 4)), w, e_X10_nextToken_109 _ _ ?_, by rw [ur_un (by decide), h4], by rw [ur_un (by decide), h5], ur_us, fun z => ?_, t1.u ⟨rfl, by decide, by decide⟩⟩
      · have hc : isLt (sgA q e) = false := by
          unfold sgA
          by_cases h : e < q.1
          · rw [decide_eq_true h, cond_true]; exact r4 h
          · rw [decide_eq_false h, cond_false]; decide
        have sa := t_signAt (d := d) (g := ur_u g 208 7 w) hM ht1 (show e ≤ q.1 from r2)
        rw [show (bif decide (e < q.1) then q.2 e else 0) = sgA q e from rfl] at sa
        rw [isLt_d (sgA_lt ht1)] at hc
        simp only [hM.I, Option.bind_some, h4, sa]
        cases h97 : decide (nI (sgA q e) < (97 : Int32)) with
        | true => simp only [cond_true]; exact last
        | false =>
          rw [h97] at hc
          have : decide ((122 : Int32) < nI (sgA q e)) = true := by
            cases h122 : decide ((122 : Int32) < nI (sgA q e)) with
            | true => rfl
            | false => rw [h122] at hc; cases hc
          simp only [cond_false, this, cond_true]
          exact last
      · rw [hw, hke, Nat.min_eq_left z]
    | succ n ih =>
      intro k f1 w hk h4 h5 hw t1
      have ht1 := ht.fr t1 TBx_d
      have hq : b + k < q.1 := by omega
      have hc := r3 (b + k) (by omega) (by omega)
      have c128 := ht1.2.2.2 (b + k) hq
      have hl := hc
      rw [isLt_d c128, Bool.and_eq_true, Bool.not_eq_true', Bool.not_eq_true'] at hc
      unfold isLt at hl
      rw [Bool.and_eq_true, decide_eq_true_eq, decide_eq_true_eq] at hl
      have sa := fun G => t_signAt (d := d) (g := G) hM ht1 (show b + k ≤ q.1 by omega)
      rw [decide_eq_true hq, cond_true] at sa
      have sub : nI (b + k) - nI b = nI k := by rw [pk_sub (by omega), show b + k - b = k by omega]
      have d8 : decide ((8 : Int32) ≤ nI k) = decide (8 ≤ k) := d_le (a := 8) (by decide) (by omega)
      by_cases h8 : 8 ≤ k
      · obtain ⟨f', w', x1, x2⟩ := ih (k + 1) (ur_u f1 208 4 (nI (b + k + 1))) w (by omega) (by rw [ur_us]; rfl) (by rw [ur_un (by decide), h5]) (by rw [hw, Nat.min_eq_right h8, Nat.min_eq_right (by omega)]) (t1.u ⟨rfl, by decide, by decide⟩)
        refine ⟨f', w', e_X10_nextToken_109 _ _ ?_, x2⟩
        simp only [hM.I, hM.pI, Option.bind_some, h4, h5, sa, hc.1, hc.2, cond_false, sub, d8, decide_eq_true h8, cond_true, nI_1]
        exact x1
      · have val : w * (27 : Int64) + (nI (q.2 (b + k))).toInt64 - (96 : Int64) = lN (wN 27 (lwT q b (min (k + 1) 8))) := by
          rw [hw, Nat.min_eq_left (show k ≤ 8 by omega), Nat.min_eq_left (show k + 1 ≤ 8 by omega), lwT_s, nI_l (by omega), show (27 : Int64) = lN 27 from rfl, lN_mul, lN_add, show (96 : Int64) = lN 96 from rfl, lN_sub (by omega), show wN 27 (lwT q b k) * 27 + q.2 (b + k) - 96 = wN 27 (lwT q b k) * 27 + (q.2 (b + k) - 96) by omega]
        obtain ⟨f', w', x1, x2⟩ := ih (k + 1) (ur_u f1 208 4 (nI (b + k + 1))) _ (by omega) (by rw [ur_us]; rfl) (by rw [ur_un (by decide), h5]) rfl (t1.u ⟨rfl, by decide, by decide⟩)
        refine ⟨f', w', e_X10_nextToken_109 _ _ ?_, x2⟩
        simp only [hM.I, hM.pI, hM.L, hM.pL, Option.bind_some, h4, h5, sa, hc.1, hc.2, cond_false, sub, d8, decide_eq_false h8, ur_usg, val, ur_uu, nI_1]
        exact x1
  obtain ⟨f', w', x1, x2⟩ := go (e - b) 0 f 0 (by omega) e4 e5 rfl eqT.refl
  exact ⟨f', w', x1, x2⟩
theorem m_digits {G : Nat → Nat → Int64} (hM : oModel s R 208) (ht : tpM f q) (hb : b ≤ q.1) (e4 : f 208 4 = nI b) (e5 : f 208 5 = nI b) (e8 : f 208 8 = 0) : ∃ f', ur_at ur_G (d + 1) 145 (224, [some (.ref 208), none], [], (s, f, G, R)) = some (0, (s, f', G, R)) ∧ f' 208 4 = nI (ruE q isDg b) ∧ f' 208 5 = nI b ∧ f' 208 6 = nI (bif decide (ruE q isDg b - b ≤ 4) then 2 else 4) ∧ (ruE q isDg b - b ≤ 4 → f' 208 8 = nI (nmD q b (ruE q isDg b - b))) ∧ eqT TBx f f' := by
  obtain ⟨r1, r2, r3, r4⟩ := ruE_of (q := q) (p := isDg) (i := b) hb
  obtain ⟨e, he⟩ : ∃ e, e = ruE q isDg b := ⟨_, rfl⟩
  rw [← he] at r1 r2 r3 r4 ⊢
  have hle := ht.2.1
  have go : ∀ (n k : Nat) (f1 : Nat → Nat → Int32), n + k = e - b → f1 208 4 = nI (b + k) → f1 208 5 = nI b → f1 208 8 = nI (nmD q b (min k 4)) → eqT TBx f f1 → ∃ f', ur_at ur_G (d + 1) 145 (224, [some (.ref 208), none], [], (s, f1, G, R)) = some (0, (s, f', G, R)) ∧ f' 208 4 = nI e ∧ f' 208 5 = nI b ∧ f' 208 6 = nI (bif decide (e - b ≤ 4) then 2 else 4) ∧ (e - b ≤ 4 → f' 208 8 = nI (nmD q b (e - b))) ∧ eqT TBx f f' := by
    intro n
    induction n with
    | zero =>
      intro k f1 hk h4 h5 h8 t1
      have hbe : b + k = e := by omega
      have hke : k = e - b := by omega
      rw [hbe] at h4
      have ht1 := ht.fr t1 TBx_d
      have sub : nI e - nI b = nI (e - b) := pk_sub r1
      have d4 : decide (nI (e - b) ≤ (4 : Int32)) = decide (e - b ≤ 4) := d_le (b := 4) (by omega) (by decide)
      have last : ur_at ur_G (d + 1) 145 (299, [some (.ref 208), none], [], (s, f1, G, R)) = some (0, (s, ur_u f1 208 6 (nI (bif decide (e - b ≤ 4) then 2 else 4)), G, R)) := by
        refine e_X10_nextToken_299 _ _ ?_
        simp only [hM.I, hM.pI, Option.bind_some, h4, h5, sub, d4]
        cases decide (e - b ≤ 4) <;> rfl
      refine ⟨ur_u f1 208 6 (nI (bif decide (e - b ≤ 4) then 2 else 4)), e_X10_nextToken_224 _ _ ?_, by rw [ur_un (by decide), h4], by rw [ur_un (by decide), h5], ur_us, fun z => ?_, t1.u ⟨rfl, by decide, by decide⟩⟩
      · have hc : isDg (sgA q e) = false := by
          unfold sgA
          by_cases h : e < q.1
          · rw [decide_eq_true h, cond_true]; exact r4 h
          · rw [decide_eq_false h, cond_false]; decide
        have sa := t_signAt (d := d) (g := G) hM ht1 (show e ≤ q.1 from r2)
        rw [show (bif decide (e < q.1) then q.2 e else 0) = sgA q e from rfl] at sa
        rw [isDg_d (sgA_lt ht1)] at hc
        simp only [hM.I, Option.bind_some, h4, sa]
        cases h97 : decide (nI (sgA q e) < (48 : Int32)) with
        | true => simp only [cond_true]; exact last
        | false =>
          rw [h97] at hc
          have : decide ((57 : Int32) < nI (sgA q e)) = true := by
            cases h122 : decide ((57 : Int32) < nI (sgA q e)) with
            | true => rfl
            | false => rw [h122] at hc; cases hc
          simp only [cond_false, this, cond_true]
          exact last
      · rw [ur_un (by decide), h8, hke, Nat.min_eq_left z]
    | succ n ih =>
      intro k f1 hk h4 h5 h8 t1
      have ht1 := ht.fr t1 TBx_d
      have hq : b + k < q.1 := by omega
      have hc := r3 (b + k) (by omega) (by omega)
      have c128 := ht1.2.2.2 (b + k) hq
      have hl := hc
      rw [isDg_d c128, Bool.and_eq_true, Bool.not_eq_true', Bool.not_eq_true'] at hc
      unfold isDg at hl
      rw [Bool.and_eq_true, decide_eq_true_eq, decide_eq_true_eq] at hl
      have sa := t_signAt (d := d) (g := G) hM ht1 (show b + k ≤ q.1 by omega)
      rw [decide_eq_true hq, cond_true] at sa
      have sub : nI (b + k) - nI b = nI k := by rw [pk_sub (by omega), show b + k - b = k by omega]
      have d4 : decide ((4 : Int32) ≤ nI k) = decide (4 ≤ k) := d_le (a := 4) (by decide) (by omega)
      by_cases h4k : 4 ≤ k
      · obtain ⟨f', x1, x2⟩ := ih (k + 1) (ur_u f1 208 4 (nI (b + k + 1))) (by omega) (by rw [ur_us]; rfl) (by rw [ur_un (by decide), h5]) (by rw [ur_un (by decide), h8, Nat.min_eq_right h4k, Nat.min_eq_right (by omega)]) (t1.u ⟨rfl, by decide, by decide⟩)
        refine ⟨f', e_X10_nextToken_224 _ _ ?_, x2⟩
        simp only [hM.I, hM.pI, Option.bind_some, h4, h5, sa, hc.1, hc.2, cond_false, sub, d4, decide_eq_true h4k, cond_true, nI_1]
        exact x1
      · have val : nI (nmD q b (min k 4)) * (10 : Int32) + nI (q.2 (b + k)) - (48 : Int32) = nI (nmD q b (min (k + 1) 4)) := by
          rw [Nat.min_eq_left (show k ≤ 4 by omega), Nat.min_eq_left (show k + 1 ≤ 4 by omega), show (10 : Int32) = nI 10 from rfl, pk_mul, nI_add, show (48 : Int32) = nI 48 from rfl, pk_sub (by omega), show nmD q b k * 10 + q.2 (b + k) - 48 = nmD q b k * 10 + (q.2 (b + k) - 48) by omega]
          rfl
        obtain ⟨f', x1, x2⟩ := ih (k + 1) (ur_u (ur_u f1 208 8 (nI (nmD q b (min (k + 1) 4)))) 208 4 (nI (b + k + 1))) (by omega) (by rw [ur_us]; rfl) (by rw [ur_un (by decide), ur_un (by decide), h5]) (by rw [ur_un (by decide), ur_us]) ((t1.u ⟨rfl, by decide, by decide⟩).u ⟨rfl, by decide, by decide⟩)
        refine ⟨f', e_X10_nextToken_224 _ _ ?_, x2⟩
        have u4 : ur_u f1 208 8 (nI (nmD q b (min (k + 1) 4))) 208 4 = nI (b + k) := by rw [ur_un (by decide), h4]
        simp only [hM.I, hM.pI, Option.bind_some, h4, h5, h8, sa, hc.1, hc.2, cond_false, sub, d4, decide_eq_false h4k, val, u4, nI_1]
        exact x1
  obtain ⟨f', x1, x2⟩ := go (e - b) 0 f (by omega) e4 e5 e8 eqT.refl
  exact ⟨f', x1, x2⟩
theorem sg_d (hc : c < 128) : sgC c = (bif decide (nI c < (40 : Int32)) then (bif decide (nI c = (45 : Int32)) then true else bif decide (nI c < (59 : Int32)) then false else bif decide ((61 : Int32) < nI c) then false else true) else bif decide (nI c ≤ (43 : Int32)) then true else (bif decide (nI c = (45 : Int32)) then true else bif decide (nI c < (59 : Int32)) then false else bif decide ((61 : Int32) < nI c) then false else true)) := (by decide +kernel : ∀ c, c < 128 → sgC c = (bif decide (nI c < (40 : Int32)) then (bif decide (nI c = (45 : Int32)) then true else bif decide (nI c < (59 : Int32)) then false else bif decide ((61 : Int32) < nI c) then false else true) else bif decide (nI c ≤ (43 : Int32)) then true else (bif decide (nI c = (45 : Int32)) then true else bif decide (nI c < (59 : Int32)) then false else bif decide ((61 : Int32) < nI c) then false else true))) c hc
theorem m_next (hM : oModel s R 208) (ht : tpM f q) (hi : i ≤ q.1) (e4 : f 208 4 = nI i) : ∃ f' w, ur_call ur_G (d + 2) 145 [.ref 208] (s, f, g, R) = some (0, (s, f', ur_u g 208 7 w, R)) ∧ mT f' (ur_u g 208 7 w) q i ∧ eqT TBx f f' := by
  obtain ⟨r1, r2, r3, r4⟩ := ruE_of (q := q) (p := isBl) (i := i) hi
  have hbg : bgT q i = ruE q isBl i := rfl
  obtain ⟨b, hb⟩ : ∃ b, b = bgT q i := ⟨_, rfl⟩
  rw [← hbg, ← hb] at r1 r2 r3 r4
  have hle := ht.2.1
  have hen : enT q i = enB q b := by unfold enT; rw [hb]
  have hkd : kdT q i = kdB q b := by unfold kdT; rw [hb]
  have fin : ∀ f1, f1 208 4 = nI b → eqT TBx f f1 → ∃ f' w, ur_at ur_G (d + 1) 145 (52, [some (.ref 208), none], [], (s, f1, g, R)) = some (0, (s, f', ur_u g 208 7 w, R)) ∧ mT f' (ur_u g 208 7 w) q i ∧ eqT TBx f f' := by
    intro f1 h4 t1
    obtain ⟨f2, hf2⟩ : ∃ f2, f2 = ur_u (ur_u f1 208 5 (nI b)) 208 8 0 := ⟨_, rfl⟩
    have t2 : eqT TBx f f2 := by rw [hf2]; exact (t1.u ⟨rfl, by decide, by decide⟩).u ⟨rfl, by decide, by decide⟩
    have ht2 := ht.fr t2 TBx_d
    have g4 : f2 208 4 = nI b := by rw [hf2, ur_un (by decide), ur_un (by decide), h4]
    have g5 : f2 208 5 = nI b := by rw [hf2, ur_un (by decide), ur_us]
    have g8 : f2 208 8 = 0 := by rw [hf2, ur_us]
    by_cases hq : b < q.1
    · have c128 := ht2.2.2.2 b hq
      have a1 := hM.a1 (f := f2) (g := ur_u g 208 7 0) (show b < 1000 by omega)
      have hne : decide (nI b ≠ nI q.1) = true := decide_eq_true (fun z => by
        have := (nI_eq (by omega) (by omega)).mp z
        omega)
      have head : ∀ r, (bif isLt (q.2 b) then ur_at ur_G (d + 1) 145 (109, [some (.ref 208), none], [], (s, f2, ur_u g 208 7 0, R)) else bif isDg (q.2 b) then ur_at ur_G (d + 1) 145 (224, [some (.ref 208), none], [], (s, f2, ur_u g 208 7 0, R)) else ur_at ur_G (d + 1) 145 (322, [some (.ref 208), some (.int (nI (q.2 b)))], [], (s, f2, ur_u g 208 7 0, R))) = some r → ur_at ur_G (d + 1) 145 (52, [some (.ref 208), none], [], (s, f1, g, R)) = some r := fun r hr => by
        refine e_X10_nextToken_52 _ _ ?_
        rw [isLt_d c128, isDg_d c128] at hr
        simp only [hM.I, hM.pI, hM.pL, Option.bind_some, h4, ← hf2, g4, ht2.1, hne, cond_true, hM.r2, a1, ht2.at hq]
        revert hr
        cases decide (nI (q.2 b) < (97 : Int32)) with
        | true =>
          simp only [Bool.not_true, Bool.false_and, cond_false, cond_true]
          cases decide (nI (q.2 b) < (48 : Int32)) with
          | true => simp only [Bool.not_true, Bool.false_and, cond_false, cond_true]; exact fun h => h
          | false =>
            cases decide ((57 : Int32) < nI (q.2 b)) with
            | true => simp only [Bool.not_true, Bool.not_false, Bool.and_false, cond_false, cond_true]; exact fun h => h
            | false => simp only [Bool.not_false, Bool.and_self, cond_false, cond_true]; exact fun h => h
        | false =>
          cases decide ((122 : Int32) < nI (q.2 b)) with
          | true =>
            simp only [Bool.not_true, Bool.not_false, Bool.and_false, cond_false, cond_true]
            cases decide (nI (q.2 b) < (48 : Int32)) with
            | true => simp only [Bool.not_true, Bool.false_and, cond_false, cond_true]; exact fun h => h
            | false =>
              cases decide ((57 : Int32) < nI (q.2 b)) with
              | true => simp only [Bool.not_true, Bool.not_false, Bool.and_false, cond_false, cond_true]; exact fun h => h
              | false => simp only [Bool.not_false, Bool.and_self, cond_false, cond_true]; exact fun h => h
          | false => simp only [Bool.not_false, Bool.and_self, cond_false, cond_true]; exact fun h => h
      cases hL : isLt (q.2 b) with
      | true =>
        obtain ⟨f3, w, x1, x2, x3, x4, x5, x6⟩ := m_word (d := d) (g := g) hM ht2 r2 g4 g5
        have en : enB q b = ruE q isLt b := by unfold enB; rw [decide_eq_false (by omega), cond_false, hL, cond_true]
        have kd : kdB q b = bif decide (ruE q isLt b - b ≤ 8) then kwK (lwT q b (ruE q isLt b - b)) else 0 := by unfold kdB; rw [decide_eq_false (by omega), cond_false, hL, cond_true]
        refine ⟨f3, w, head _ ?_, ⟨by rw [x2, hen, en], by rw [x3, hb], ?_, fun z => ?_, fun z => ?_⟩, t2.trans x6⟩
        · rw [hL, cond_true]
          exact x1
        · rw [x4, hkd, kd]
          cases decide (ruE q isLt b - b ≤ 8) with
          | false => rfl
          | true =>
            simp only [cond_true]
            have hv := kwK_v (lwT q b (ruE q isLt b - b))
            unfold tkM
            rw [decide_eq_false (by omega), cond_false, decide_eq_false (by omega), cond_false, decide_eq_false (by omega), cond_false]
            rcases hv with hv | hv
            · rw [decide_eq_true hv]; rfl
            · rw [decide_eq_true hv.1, Bool.or_true]; rfl
        · rw [ur_usg]
          have h8 : ruE q isLt b - b ≤ 8 := by
            have := (tk_w hi z).2.2.2.2.1
            rw [hen, en, ← hb] at this
            exact this
          rw [x5 h8]
          unfold wlT
          rw [hen, en, ← hb]
        · exfalso
          rw [hkd, kd] at z
          revert z
          cases decide (ruE q isLt b - b ≤ 8) with
          | true => rw [cond_true]; have := kwK_v (lwT q b (ruE q isLt b - b)); omega
          | false => rw [cond_false]; omega
      | false =>
        cases hD : isDg (q.2 b) with
        | true =>
          obtain ⟨f3, x1, x2, x3, x4, x5, x6⟩ := m_digits (d := d) (G := ur_u g 208 7 0) hM ht2 r2 g4 g5 g8
          have en : enB q b = ruE q isDg b := by unfold enB; rw [decide_eq_false (by omega), cond_false, hL, cond_false, hD, cond_true]
          have kd : kdB q b = bif decide (ruE q isDg b - b ≤ 4) then 2 else 0 := by unfold kdB; rw [decide_eq_false (by omega), cond_false, hL, cond_false, hD, cond_true]
          refine ⟨f3, 0, head _ ?_, ⟨by rw [x2, hen, en], by rw [x3, hb], ?_, fun z => ?_, fun z => ?_⟩, t2.trans x6⟩
          · rw [hL, cond_false, hD, cond_true]
            exact x1
          · rw [x4, hkd, kd]
            cases decide (ruE q isDg b - b ≤ 4) <;> rfl
          · exfalso
            rw [hkd, kd] at z
            unfold isW at z
            revert z
            cases decide (ruE q isDg b - b ≤ 4) <;> simp
          · have h4' : ruE q isDg b - b ≤ 4 := by
              rw [hkd, kd] at z
              revert z
              cases h : decide (ruE q isDg b - b ≤ 4) with
              | true => exact fun _ => of_decide_eq_true h
              | false => simp
            rw [x5 h4']
            unfold nmT
            rw [hen, en, ← hb]
        | false =>
          have en : enB q b = b + 1 := by unfold enB; rw [decide_eq_false (by omega), cond_false, hL, cond_false, hD, cond_false]
          have kd : kdB q b = bif sgC (q.2 b) then q.2 b else 0 := by unfold kdB; rw [decide_eq_false (by omega), cond_false, hL, cond_false, hD, cond_false]
          have hv : (sgC (q.2 b) = true ∧ kdB q b = q.2 b ∧ 40 ≤ q.2 b ∧ q.2 b ≤ 61) ∨ (sgC (q.2 b) = false ∧ kdB q b = 0) := by
            rw [kd]
            cases hs : sgC (q.2 b) with
            | false => exact Or.inr ⟨rfl, rfl⟩
            | true =>
              refine Or.inl ⟨rfl, rfl, ?_⟩
              unfold sgC at hs
              simp only [Bool.or_eq_true, Bool.and_eq_true, decide_eq_true_eq] at hs
              omega
          have htk : nI (tkM (kdB q b)) = bif sgC (q.2 b) then 3 else 4 := by
            rcases hv with ⟨h1, h2, h3, h4⟩ | ⟨h1, h2⟩
            · rw [h1, h2]
              unfold tkM
              rw [decide_eq_false (by omega), cond_false, decide_eq_false (by omega), cond_false, decide_eq_false (by omega), cond_false, decide_eq_false (by omega), decide_eq_false (by omega)]
              rfl
            · rw [h1, h2]; rfl
          refine ⟨ur_u (ur_u f2 208 4 (nI (b + 1))) 208 6 (nI (tkM (kdB q b))), 0, head _ ?_, ⟨by rw [ur_un (by decide), ur_us, hen, en], by rw [ur_un (by decide), ur_un (by decide), g5, hb], by rw [ur_us, hkd], fun z => ?_, fun z => ?_⟩, (t2.u ⟨rfl, by decide, by decide⟩).u ⟨rfl, by decide, by decide⟩⟩
          · rw [hL, cond_false, hD, cond_false, htk, sg_d c128]
            have n345 : ur_at ur_G (d + 1) 145 (345, [none, some (.int (nI (q.2 b)))], [.ref 208], (s, ur_u f2 208 4 (nI (b + 1)), ur_u g 208 7 0, R)) = some (0, (s, ur_u (ur_u f2 208 4 (nI (b + 1))) 208 6 (bif (bif decide (nI (q.2 b) = (45 : Int32)) then true else bif decide (nI (q.2 b) < (59 : Int32)) then false else bif decide ((61 : Int32) < nI (q.2 b)) then false else true) then 3 else 4), ur_u g 208 7 0, R)) := by
              refine e_X10_nextToken_345 _ _ _ ?_
              simp only [hM.pI, Option.bind_some]
              cases decide (nI (q.2 b) = (45 : Int32)) with
              | true => rfl
              | false =>
                cases decide (nI (q.2 b) < (59 : Int32)) with
                | true => rfl
                | false => cases decide ((61 : Int32) < nI (q.2 b)) <;> rfl
            refine e_X10_nextToken_322 _ _ _ ?_
            simp only [hM.I, hM.pI, Option.bind_some, g4, nI_1]
            cases decide (nI (q.2 b) < (40 : Int32)) with
            | true => simp only [cond_true]; exact n345
            | false =>
              cases decide (nI (q.2 b) ≤ (43 : Int32)) with
              | true => simp only [cond_true, cond_false]
              | false => simp only [cond_false]; exact n345
          · exfalso
            rw [hkd] at z
            unfold isW at z
            omega
          · exfalso
            rw [hkd] at z
            omega
    · have hqb : b = q.1 := by omega
      have en : enB q b = b := by unfold enB; rw [decide_eq_true (by omega), cond_true]
      have kd : kdB q b = 1 := kdB_1.mpr (by omega)
      refine ⟨ur_u f2 208 6 0, 0, e_X10_nextToken_52 _ _ ?_, ⟨by rw [ur_un (by decide), g4, hen, en], by rw [ur_un (by decide), g5, hb], by rw [ur_us, hkd, kd]; rfl, fun z => ?_, fun z => ?_⟩, t2.u ⟨rfl, by decide, by decide⟩⟩
      · simp only [hM.I, hM.pI, hM.pL, Option.bind_some, h4, ← hf2, g4, ht2.1, decide_eq_false (show ¬ nI b ≠ nI q.1 from fun z => z (by rw [hqb])), cond_false]
      · rw [hkd, kd] at z
        unfold isW at z
        omega
      · rw [hkd, kd] at z
        omega
  have loop : ∀ (n k : Nat) (f1 : Nat → Nat → Int32), n + k = b → i ≤ k → f1 208 4 = nI k → eqT TBx f f1 → ∃ f' w, ur_at ur_G (d + 1) 145 (0, [some (.ref 208), none], [], (s, f1, g, R)) = some (0, (s, f', ur_u g 208 7 w, R)) ∧ mT f' (ur_u g 208 7 w) q i ∧ eqT TBx f f' := by
    intro n
    induction n with
    | zero =>
      intro k f1 hk hik h4 t1
      have : k = b := by omega
      subst this
      have ht1 := ht.fr t1 TBx_d
      obtain ⟨f', w, x1, x2⟩ := fin f1 h4 t1
      refine ⟨f', w, e_X10_nextToken_0 _ _ ?_, x2⟩
      by_cases hq : k < q.1
      · have hc := r4 hq
        have c128 := ht1.2.2.2 k hq
        rw [isBl_d c128] at hc
        have a1 := hM.a1 (f := f1) (g := g) (show k < 1000 by omega)
        simp only [hM.I, Option.bind_some, h4, ht1.1, d_le (show q.1 < 2 ^ 31 by omega) (show k < 2 ^ 31 by omega), decide_eq_false (show ¬ q.1 ≤ k by omega), cond_false, hM.r2, a1, ht1.at hq]
        cases h32 : decide (nI (q.2 k) = (32 : Int32)) with
        | true => rw [h32] at hc; cases hc
        | false =>
          rw [h32] at hc
          have : decide (nI (q.2 k) ≠ (10 : Int32)) = true := by
            cases h10 : decide (nI (q.2 k) ≠ (10 : Int32)) with
            | true => rfl
            | false => rw [h10] at hc; cases hc
          simp only [cond_false, this, cond_true]
          exact x1
      · simp only [hM.I, Option.bind_some, h4, ht1.1, d_le (show q.1 < 2 ^ 31 by omega) (show k < 2 ^ 31 by omega), decide_eq_true (show q.1 ≤ k by omega), cond_true]
        exact x1
    | succ n ih =>
      intro k f1 hk hik h4 t1
      have ht1 := ht.fr t1 TBx_d
      have hq : k < q.1 := by omega
      have hc := r3 k hik (by omega)
      have c128 := ht1.2.2.2 k hq
      rw [isBl_d c128] at hc
      obtain ⟨f', w, x1, x2⟩ := ih (k + 1) (ur_u f1 208 4 (nI (k + 1))) (by omega) (by omega) ur_us (t1.u ⟨rfl, by decide, by decide⟩)
      refine ⟨f', w, e_X10_nextToken_0 _ _ ?_, x2⟩
      have a1 := hM.a1 (f := f1) (g := g) (show k < 1000 by omega)
      simp only [hM.I, hM.pI, Option.bind_some, h4, ht1.1, d_le (show q.1 < 2 ^ 31 by omega) (show k < 2 ^ 31 by omega), decide_eq_false (show ¬ q.1 ≤ k by omega), cond_false, hM.r2, a1, ht1.at hq, nI_1]
      cases h32 : decide (nI (q.2 k) = (32 : Int32)) with
      | true => simp only [cond_true]; exact x1
      | false =>
        rw [h32] at hc
        have : decide (nI (q.2 k) ≠ (10 : Int32)) = false := by
          cases h10 : decide (nI (q.2 k) ≠ (10 : Int32)) with
          | false => rfl
          | true => rw [h10] at hc; cases hc
        simp only [cond_false, this]
        exact x1
  obtain ⟨f', w, x1, x2⟩ := loop (b - i) i f (by omega) (Nat.le_refl _) e4 eqT.refl
  exact ⟨f', w, ur_cl hM.rcv rfl x1, x2⟩
end URNX

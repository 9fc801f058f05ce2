/-! feed, on both sides -/
def okC (c : Nat) : Bool := decide (c = 10) || (decide (32 ≤ c) && decide (c ≤ 126))
def fdS (B : Nat → Nat) (i : Nat) (x : Nat × (Nat → Nat)) : Nat × (Nat → Nat) := bif okC (B i) && decide (x.1 < 1000) then (x.1 + 1, fun k => if k = x.1 then B i else x.2 k) else x
def sfI (i : Nat) : Int32 := 56 - 8 * nI i
theorem sf_f : ∀ i, i < 8 → sfI i + (-8) = sfI (i + 1) ∧ decide (sfI i < 0) = false := by decide +kernel
theorem sf_m : ∀ k, k < 24 → (56 : Int32) - ((8 : Int32) * (nI k &&& (7 : Int32))) = sfI (k % 8) := by decide +kernel
theorem ch_nar : ∀ c, c < 256 → vp_nar .char (((nI c).toUInt32 % 65536).toInt32) = nI c := by decide +kernel
def yB (w : Int64) (i : Nat) : Int32 := (((w).toUInt64 >>> ((sfI i).toInt64.toUInt64 &&& Int64.toUInt64 63)).toInt64).toInt32 &&& (255 : Int32)
theorem yB_m (w : Int64) (i : Nat) : ((((w).toUInt64 >>> ((sfI i).toInt64.toUInt64 &&& Int64.toUInt64 63)).toInt64 &&& (255 : Int64))).toInt32 = yB w i := by
  rw [Int64.toInt32_and]
  rfl
theorem yB_is (w : Int64) (i : Nat) : ∃ c, c < 256 ∧ yB w i = nI c := by
  obtain ⟨j, h1, h2⟩ := pk_andE ((((w).toUInt64 >>> ((sfI i).toInt64.toUInt64 &&& Int64.toUInt64 63)).toInt64).toInt32) (m := 255) 8 (by decide)
  exact ⟨j, h1, h2⟩
def tpC (f : Nat → Nat → Int32) (a b k1 : Nat) (x : Nat × (Nat → Nat)) : Prop := f a k1 = nI x.1 ∧ x.1 ≤ 1000 ∧ ∀ k, k < x.1 → f b k = nI (x.2 k)
theorem okC_d {c : Nat} (hc : c < 256) : okC c = (bif decide (nI c = (10 : Int32)) then true else bif decide (nI c < (32 : Int32)) then false else bif decide ((126 : Int32) < nI c) then false else true) :=
  (by decide +kernel : ∀ c, c < 256 → okC c = (bif decide (nI c = (10 : Int32)) then true else bif decide (nI c < (32 : Int32)) then false else bif decide ((126 : Int32) < nI c) then false else true)) c hc
theorem fdS_le {B : Nat → Nat} {i : Nat} {x : Nat × (Nat → Nat)} (h : x.1 ≤ 1000) : (fdS B i x).1 ≤ 1000 := by
  unfold fdS
  by_cases q : x.1 < 1000
  · cases okC (B i) with
    | false => exact h
    | true => rw [decide_eq_true q]; show x.1 + 1 ≤ 1000; omega
  · rw [decide_eq_false q, Bool.and_false]; exact h
theorem fdS_ok {B : Nat → Nat} {i : Nat} {x : Nat × (Nat → Nat)} (h : ∀ k, k < x.1 → okC (x.2 k) = true) : ∀ k, k < (fdS B i x).1 → okC ((fdS B i x).2 k) = true := by
  unfold fdS
  cases hq : okC (B i) && decide (x.1 < 1000) with
  | false => exact h
  | true =>
    rw [Bool.and_eq_true] at hq
    intro k hk
    show okC (if k = x.1 then B i else x.2 k) = true
    by_cases e : k = x.1
    · rw [if_pos e]; exact hq.1
    · rw [if_neg e]
      have : k < x.1 + 1 := hk
      exact h k (by omega)
section URFD
variable {s : List (Nat ⊕ (Nat × Nat))} {f f' f1 f2 l V V' : Nat → Nat → Int32} {g : Nat → Nat → Int64} {R : Nat → Nat → Option Nat} {L L' K K' d b j p P N w n k a i z m o : Nat} {x y c e X : Int32} {u v t : Int64} {E : Int32 → Int32 → Int32 → Int32 → Int32} {B : Nat → Nat} {q : Nat × (Nat → Nat)}
def TFx : Nat → Nat → Prop := fun a k => (a = 1 ∧ k = 1) ∨ a = 2
def TFm : Nat → Nat → Prop := fun a k => (a = 208 ∧ k ≤ 1) ∨ a = 209
theorem x_put (hO : oTape s R 1) (hb : B i < 256) (hq : tpC f 1 2 1 q) : ∃ f', ur_call ur_G (d + 1) 72 [.ref 1, .int (nI (B i))] (s, f, g, R) = some (0, (s, f', g, R)) ∧ tpC f' 1 2 1 (fdS B i q) ∧ eqT TFx f f' := by
  obtain ⟨q1, q2, q3⟩ := hq
  have n1000 : decide ((1000 : Int32) ≤ nI q.1) = decide (1000 ≤ q.1) := d_le (a := 1000) (by decide) (by omega)
  have last : okC (B i) = true → ∃ f', ur_at ur_G d 72 (23, [some (.ref 1), some (.int (nI (B i))), none], [.int 1], (s, f, g, R)) = some (0, (s, f', g, R)) ∧ tpC f' 1 2 1 (fdS B i q) ∧ eqT TFx f f' := fun hok => by
    unfold fdS
    rw [hok, Bool.true_and]
    by_cases hlt : q.1 < 1000
    · rw [decide_eq_true hlt]
      have w1 : ur_wI (s, f, g, R) (1 + 1) 3 (nI q.1) (nI (B i)) = some (s, ur_u f (1 + 1) q.1 (nI (B i)), g, R) := hO.w1 hlt
      refine ⟨ur_u (ur_u f 2 q.1 (nI (B i))) 1 1 (nI (q.1 + 1)), e_X8_put_23 _ _ _ _ ?_, ⟨ur_us, by show q.1 + 1 ≤ 1000; omega, fun k hk => ?_⟩, (eqT_u (T := TFx) (Or.inr rfl)).u (Or.inl ⟨rfl, rfl⟩)⟩
      · rw [show decide ((1 : Int32) = 0) = false from by decide, cond_false]
        simp only [hO.I, Option.bind_some, q1, n1000, decide_eq_false (show ¬ 1000 ≤ q.1 by omega), cond_false, hO.r0, ch_nar _ hb, w1, ur_ua (show (1 : Nat) ≠ 1 + 1 by decide), hO.pI, nI_1]
      · show ur_u (ur_u f 2 q.1 (nI (B i))) 1 1 (nI (q.1 + 1)) 2 k = nI (if k = q.1 then B i else q.2 k)
        rw [ur_ua (by decide)]
        by_cases e : k = q.1
        · rw [if_pos e, e, ur_us]
        · have : k < q.1 + 1 := hk
          rw [if_neg e, ur_un e, q3 k (by omega)]
    · rw [decide_eq_false hlt]
      refine ⟨f, e_X8_put_23 _ _ _ _ ?_, ⟨q1, q2, q3⟩, eqT.refl⟩
      rw [show decide ((1 : Int32) = 0) = false from by decide, cond_false]
      simp only [hO.I, Option.bind_some, q1, n1000, decide_eq_true (show 1000 ≤ q.1 by omega), cond_true]
  have none0 : okC (B i) = false → ∃ f', ur_at ur_G d 72 (23, [some (.ref 1), some (.int (nI (B i))), none], [.int 0], (s, f, g, R)) = some (0, (s, f', g, R)) ∧ tpC f' 1 2 1 (fdS B i q) ∧ eqT TFx f f' := fun hok => by
    unfold fdS
    rw [hok, Bool.false_and]
    exact ⟨f, e_X8_put_23 _ _ _ _ rfl, ⟨q1, q2, q3⟩, eqT.refl⟩
  have hd := okC_d hb
  cases h10 : decide (nI (B i) = (10 : Int32)) with
  | true =>
    rw [h10] at hd
    obtain ⟨f', k1, k2⟩ := last hd
    refine ⟨f', ur_cl hO.rcv rfl (e_X8_put_0 _ _ _ ?_), k2⟩
    rw [h10]; exact k1
  | false =>
    rw [h10] at hd
    cases h32 : decide (nI (B i) < (32 : Int32)) with
    | true =>
      rw [h32] at hd
      obtain ⟨f', k1, k2⟩ := none0 hd
      refine ⟨f', ur_cl hO.rcv rfl (e_X8_put_0 _ _ _ ?_), k2⟩
      rw [h10, h32]; exact k1
    | false =>
      rw [h32] at hd
      cases h126 : decide ((126 : Int32) < nI (B i)) with
      | true =>
        rw [h126] at hd
        obtain ⟨f', k1, k2⟩ := none0 hd
        refine ⟨f', ur_cl hO.rcv rfl (e_X8_put_0 _ _ _ ?_), k2⟩
        rw [h10, h32, h126]; exact k1
      | false =>
        rw [h126] at hd
        obtain ⟨f', k1, k2⟩ := last hd
        refine ⟨f', ur_cl hO.rcv rfl (e_X8_put_0 _ _ _ ?_), k2⟩
        rw [h10, h32, h126]; exact k1
theorem x_feedBytes {i0 : Nat} (hX : oX s R L L' K K') (hw : ∀ i, i < 8 → B (i0 + i) < 256 ∧ yB u i = nI (B (i0 + i))) (hq : tpC f 1 2 1 (itr (fdS B) i0 q)) : ∃ f', ur_call ur_G (d + 2) 82 [.ref 0, .long u] (s, f, g, R) = some (0, (s, f', g, R)) ∧ tpC f' 1 2 1 (itr (fdS B) (i0 + 8) q) ∧ eqT TFx f f' := by
  have main := lp (n := 8) (Fn := fun i (f' : Nat → Nat → Int32) => ur_at ur_G (d + 1) 82 (3, [some (.ref 0), some (.long u), none, some (.int (sfI i))], [], (s, f', g, R)))
    (I := fun i f' => tpC f' 1 2 1 (itr (fdS B) (i0 + i) q) ∧ eqT TFx f f')
    (Q := fun r => r.1 = 0 ∧ ∃ f', r.2 = (s, f', g, R) ∧ tpC f' 1 2 1 (itr (fdS B) (i0 + 8) q) ∧ eqT TFx f f') ?_ ?_ f ⟨hq, eqT.refl⟩
  · obtain ⟨⟨v', q⟩, m1, m2, f', m3, m4⟩ := main
    dsimp only at m2 m3
    subst m2 m3
    exact ⟨f', ur_cl hX.rcv rfl (e_X9_feedBytes_0 _ _ _ m1), m4⟩
  · intro i f1 hi ⟨i1, i2⟩
    obtain ⟨w1, w2⟩ := hw i hi
    obtain ⟨e1, e2⟩ := sf_f i hi
    obtain ⟨f2, c1, c2, c3⟩ := x_put (d := d) (g := g) (B := B) (i := i0 + i) hX.tape w1 i1
    refine ⟨f2, ⟨c2, i2.trans c3⟩, fun r hr => e_X9_feedBytes_3 _ _ _ _ ?_⟩
    rw [e2, cond_false, hX.r0, Option.bind_some]
    rw [show ((((u).toUInt64 >>> ((sfI i).toInt64.toUInt64 &&& Int64.toUInt64 63)).toInt64).toInt32 &&& (255 : Int32)) = nI (B (i0 + i)) from w2, c1, Option.bind_some, e1]
    exact hr
  · intro f1 hI
    exact ⟨(0, (s, f1, g, R)), e_X9_feedBytes_3 _ _ _ _ rfl, rfl, f1, rfl, hI⟩
def wdL (u v t : Int64) (k : Nat) : Int64 := bif decide (k < 8) then u else bif decide (k < 16) then v else t
theorem m_feed (hM : oModel s R 208) (hB : ∀ k, k < 24 → B k < 256 ∧ yB (wdL u v t k) (k % 8) = nI (B k)) (hq : tpC f 208 209 1 q) : ∃ f', ur_call ur_G (d + 1) 143 [.ref 208, .long u, .long v, .long t] (s, f, g, R) = some (nI (itr (fdS B) 24 q).1, (s, f', g, R)) ∧ tpC f' 208 209 1 (itr (fdS B) 24 q) ∧ eqT TFm f f' := by
  have main := lp (n := 24) (Fn := fun k (f' : Nat → Nat → Int32) => ur_at ur_G d 143 (8, [some (.ref 208), some (.long u), none, some (.long v), none, some (.long t), none, some (.int (nI k)), none, none, none], [], (s, f', g, R)))
    (I := fun k f' => tpC f' 208 209 1 (itr (fdS B) k q) ∧ eqT TFm f f')
    (Q := fun r => r.1 = nI (itr (fdS B) 24 q).1 ∧ ∃ f', r.2 = (s, f', g, R) ∧ tpC f' 208 209 1 (itr (fdS B) 24 q) ∧ eqT TFm f f') ?_ ?_ (ur_u f 208 0 0) ⟨?_, eqT_u (Or.inl ⟨rfl, by decide⟩)⟩
  · obtain ⟨⟨v', q⟩, m1, m2, f', m3, m4⟩ := main
    dsimp only at m2 m3
    subst m2 m3
    refine ⟨f', ur_cl hM.rcv rfl (e_X10_feed_0 _ _ _ _ _ ?_), m4⟩
    rw [hM.pI, Option.bind_some]
    exact m1
  · intro k f1 hk ⟨⟨q1, q2, q3⟩, i2⟩
    obtain ⟨b1, b2⟩ := hB k hk
    have es : itr (fdS B) (k + 1) q = fdS B k (itr (fdS B) k q) := rfl
    rw [es]
    generalize itr (fdS B) k q = x1 at q1 q2 q3
    have n1000 : decide ((1000 : Int32) ≤ nI x1.1) = decide (1000 ≤ x1.1) := d_le (a := 1000) (by decide) (by omega)
    have n24 : decide ((24 : Int32) ≤ nI k) = false := decide_eq_false (nI_ge (b := 24) hk (by decide))
    have hd := okC_d b1
    -- a sign told by 39 on
    have h39 : ∀ f2 r, (bif decide (1000 ≤ x1.1) then ur_at ur_G d 143 (8, [some (.ref 208), some (.long u), none, some (.long v), none, some (.long t), none, some (.int (nI (k + 1))), none, none, none], [], (s, f1, g, R)) else bif okC (B k) then ur_at ur_G d 143 (93, [some (.ref 208), some (.long u), none, some (.long v), none, some (.long t), none, some (.int (nI k)), none, none, some (.int (nI (B k)))], [], (s, f1, g, R)) else ur_at ur_G d 143 (8, [some (.ref 208), some (.long u), none, some (.long v), none, some (.long t), none, some (.int (nI (k + 1))), none, none, none], [], (s, f1, g, R))) = some r → f2 = f1 → ur_at ur_G d 143 (8, [some (.ref 208), some (.long u), none, some (.long v), none, some (.long t), none, some (.int (nI k)), none, none, none], [], (s, f2, g, R)) = some r := fun f2 r hr e2 => by
      subst e2
      have go : ur_at ur_G d 143 (39, [some (.ref 208), some (.long u), none, some (.long v), none, some (.long t), none, some (.int (nI k)), none, none, none], [.long (wdL u v t k)], (s, f2, g, R)) = some r := by
        refine e_X10_feed_39 _ _ _ _ _ _ _ ?_
        rw [sf_m k hk, yB_m, b2, nI_1]
        simp only [hM.I, Option.bind_some, q1, n1000]
        rw [hd] at hr
        revert hr
        cases decide (1000 ≤ x1.1) with
        | true => exact fun hr => hr
        | false =>
          cases decide (nI (B k) = (10 : Int32)) with
          | true => exact fun hr => hr
          | false =>
            cases decide (nI (B k) < (32 : Int32)) with
            | true => exact fun hr => hr
            | false =>
              cases decide ((126 : Int32) < nI (B k)) with
              | true => exact fun hr => hr
              | false => exact fun hr => hr
      refine e_X10_feed_8 _ _ _ _ _ _ ?_
      rw [n24, cond_false, show decide ((8 : Int32) ≤ nI k) = decide (8 ≤ k) from d_le (a := 8) (by decide) (by omega), show decide ((16 : Int32) ≤ nI k) = decide (16 ≤ k) from d_le (a := 16) (by decide) (by omega)]
      unfold wdL at go
      by_cases h8 : 8 ≤ k
      · rw [decide_eq_true h8, cond_true]
        rw [decide_eq_false (show ¬ k < 8 by omega), cond_false] at go
        by_cases h16 : 16 ≤ k
        · rw [decide_eq_true h16, cond_true]
          rw [decide_eq_false (show ¬ k < 16 by omega), cond_false] at go
          exact go
        · rw [decide_eq_false h16, cond_false]
          rw [decide_eq_true (show k < 16 by omega), cond_true] at go
          exact go
      · rw [decide_eq_false h8, cond_false]
        rw [decide_eq_true (show k < 8 by omega), cond_true] at go
        exact go
    unfold fdS
    cases hok : okC (B k) with
    | false =>
      refine ⟨f1, ⟨⟨q1, q2, q3⟩, i2⟩, fun r hr => h39 f1 r ?_ rfl⟩
      rw [hok]
      cases decide (1000 ≤ x1.1) <;> exact hr
    | true =>
      rw [Bool.true_and]
      by_cases hlt : x1.1 < 1000
      · rw [decide_eq_true hlt]
        have w1 : ur_wI (s, f1, g, R) (208 + 1) 0 (nI x1.1) (nI (B k)) = some (s, ur_u f1 (208 + 1) x1.1 (nI (B k)), g, R) := hM.w1 hlt
        refine ⟨ur_u (ur_u f1 209 x1.1 (nI (B k))) 208 1 (nI (x1.1 + 1)), ⟨⟨ur_us, by show x1.1 + 1 ≤ 1000; omega, fun j hj => ?_⟩, (i2.u (Or.inr rfl)).u (Or.inl ⟨rfl, by decide⟩)⟩, fun r hr => h39 f1 r ?_ rfl⟩
        · show ur_u (ur_u f1 209 x1.1 (nI (B k))) 208 1 (nI (x1.1 + 1)) 209 j = nI (if j = x1.1 then B k else x1.2 j)
          rw [ur_ua (by decide)]
          by_cases e : j = x1.1
          · rw [if_pos e, e, ur_us]
          · have : j < x1.1 + 1 := hj
            rw [if_neg e, ur_un e, q3 j (by omega)]
        · rw [hok, decide_eq_false (show ¬ 1000 ≤ x1.1 by omega), cond_false, cond_true]
          refine e_X10_feed_93 _ _ _ _ _ _ _ ?_
          simp only [hM.r2, hM.I, Option.bind_some, q1, w1, ur_ua (show (208 : Nat) ≠ 208 + 1 by decide), hM.pI, nI_1]
          exact hr
      · rw [decide_eq_false hlt]
        refine ⟨f1, ⟨⟨q1, q2, q3⟩, i2⟩, fun r hr => h39 f1 r ?_ rfl⟩
        rw [decide_eq_true (show 1000 ≤ x1.1 by omega), cond_true]
        exact hr
  · intro f1 ⟨⟨q1, q2, q3⟩, i2⟩
    refine ⟨(nI (itr (fdS B) 24 q).1, (s, f1, g, R)), e_X10_feed_8 _ _ _ _ _ _ ?_, rfl, f1, rfl, ⟨q1, q2, q3⟩, i2⟩
    rw [show decide ((24 : Int32) ≤ nI 24) = true from by decide, cond_true, hM.I, Option.bind_some, q1]
  · obtain ⟨q1, q2, q3⟩ := hq
    exact ⟨by rw [ur_un (by decide)]; exact q1, q2, fun k hk => by rw [ur_ua (by decide)]; exact q3 k hk⟩
theorem tpJ.ch (h : tpJ f) : ∃ q : Nat × (Nat → Nat), tpC f 1 2 1 q ∧ tpC f 208 209 1 q ∧ ∀ k, k < q.1 → okC (q.2 k) = true := by
  obtain ⟨t, h1, h2, h3, h4⟩ := h
  have : ∀ k, ∃ c : Nat, k < t → (c = 10 ∨ (32 ≤ c ∧ c ≤ 126)) ∧ f 2 k = nI c ∧ f 209 k = nI c := fun k => by
    by_cases hk : k < t
    · obtain ⟨c, hc⟩ := h4 k hk
      exact ⟨c, fun _ => hc⟩
    · exact ⟨0, fun q => absurd q hk⟩
  obtain ⟨C, hC⟩ := Classical.axiomOfChoice this
  refine ⟨(t, C), ⟨h2, h1, fun k hk => (hC k hk).2.1⟩, ⟨h3, h1, fun k hk => (hC k hk).2.2⟩, fun k hk => ?_⟩
  unfold okC
  rcases (hC k hk).1 with q | ⟨q1, q2⟩
  · rw [decide_eq_true q]; rfl
  · rw [decide_eq_true q1, decide_eq_true q2]; simp
theorem tpC.tp {q : Nat × (Nat → Nat)} (h1 : tpC f 1 2 1 q) (h2 : tpC f 208 209 1 q) (hok : ∀ k, k < q.1 → okC (q.2 k) = true) : tpJ f := by
  refine ⟨q.1, h1.2.1, h1.1, h2.1, fun k hk => ⟨q.2 k, ?_, h1.2.2 k hk, h2.2.2 k hk⟩⟩
  have := hok k hk
  unfold okC at this
  rw [Bool.or_eq_true, Bool.and_eq_true, decide_eq_true_eq, decide_eq_true_eq, decide_eq_true_eq] at this
  exact this
theorem tpC.fr {T : Nat → Nat → Prop} {a b k1 : Nat} {q : Nat × (Nat → Nat)} (h : tpC f a b k1 q) (t : eqT T f f') (hd : ¬ T a k1 ∧ ∀ k, ¬ T b k) : tpC f' a b k1 q := ⟨by rw [t _ _ hd.1, h.1], h.2.1, fun k hk => by rw [t _ _ (hd.2 k), h.2.2 k hk]⟩
/-- what the tape's signs don't touch -/
theorem JV.tape (h : JV s R f g L L' K K' l V N P E) (t : eqT (fun a k => TFx a k ∨ TFm a k) f f') (ht : tpJ f') : JV s R f' g L L' K K' l V N P E := by
  obtain ⟨⟨h1, h2, h3, h4⟩, h5, h6, h7, h8, h9, h10⟩ := h
  have hL := h1.eL
  have hK := h1.eK
  have hP := h4.p5
  have no : ∀ a k, (TFx a k ∨ TFm a k) → (a = 1 ∧ k = 1) ∨ a = 2 ∨ (a = 208 ∧ k ≤ 1) ∨ a = 209 := fun a k z => by
    unfold TFx TFm at z
    omega
  refine ⟨⟨h1, h2.fr t (h2.bn.fr t (fun i k hi z => ?_)) (fun a k a1 a2 z => ?_), h3, h4.fr t (fun a k a1 a2 z => ?_) (h4.hn.eqv hP reqv.refl (fun k hk => t _ _ (fun z => ?_)))⟩, h5, ht, h7.fr t (fun a k hk z => ?_), h8.fr t (fun a k hk z => ?_), h9.fr hP t (fun a k hk z => ?_), h10.fr hP t (fun a k hk z => ?_)⟩ <;> have := no _ _ z <;> (try unfold TL) <;> omega
theorem j_feed (h : JV s R f g L L' K K' l V N P E) : JC s R f g (d + 60) 81 143 [.long u, .long v, .long t] := by
  have hX := h.oX
  obtain ⟨q, q1, q2, q3⟩ := tpJ.ch h.2.2.1
  have hex : ∀ k, ∃ c : Nat, c < 256 ∧ yB (wdL u v t k) (k % 8) = nI c := fun k => yB_is _ _
  obtain ⟨B, hB⟩ := Classical.axiomOfChoice hex
  obtain ⟨f1, a1, a2, a3⟩ := x_feedBytes (d := d + 57) (g := g) (u := u) (B := B) (i0 := 0) (f := f) (q := q) hX (fun i hi => by
    have := hB (0 + i)
    unfold wdL at this
    rw [decide_eq_true (show 0 + i < 8 by omega), show (0 + i) % 8 = i by omega] at this
    exact this) q1
  obtain ⟨f2, b1, b2, b3⟩ := x_feedBytes (d := d + 57) (g := g) (u := v) (B := B) (i0 := 8) (f := f1) (q := q) hX (fun i hi => by
    have := hB (8 + i)
    unfold wdL at this
    rw [decide_eq_false (show ¬ 8 + i < 8 by omega), decide_eq_true (show 8 + i < 16 by omega), show (8 + i) % 8 = i by omega] at this
    exact this) a2
  obtain ⟨f3, c1, c2, c3⟩ := x_feedBytes (d := d + 57) (g := g) (u := t) (B := B) (i0 := 16) (f := f2) (q := q) hX (fun i hi => by
    have := hB (16 + i)
    unfold wdL at this
    rw [decide_eq_false (show ¬ 16 + i < 8 by omega), decide_eq_false (show ¬ 16 + i < 16 by omega), show (16 + i) % 8 = i by omega] at this
    exact this) b2
  have t3 : eqT TFx f f3 := (a3.trans b3).trans c3
  obtain ⟨f4, d1, d2, d3⟩ := m_feed (d := d + 59) (g := g) (u := u) (v := v) (t := t) (B := B) (f := f3) (q := q) hX.M (fun k _ => hB k) (q2.fr t3 ⟨by unfold TFx; omega, fun k => by unfold TFx; omega⟩)
  have ok : ∀ n, ∀ k, k < (itr (fdS B) n q).1 → okC ((itr (fdS B) n q).2 k) = true := fun n => by
    induction n with
    | zero => exact q3
    | succ n ih => exact fdS_ok ih
  refine ⟨nI (itr (fdS B) 24 q).1, f3, g, R, f4, g, R, ur_cl hX.rcv rfl (e_X9_feed_0 _ _ _ _ _ ?_), d1, (h.tape (f' := f4) ((t3.mono (fun a k z => Or.inl z)).trans (d3.mono (fun a k z => Or.inr z))) (tpC.tp (q := itr (fdS B) 24 q) (c2.fr d3 ⟨by unfold TFm; omega, fun k => by unfold TFm; omega⟩) d2 (ok 24))).inv⟩
  have e3 : f3 1 1 = nI (itr (fdS B) 24 q).1 := c2.1
  simp only [a1, b1, c1, Option.bind_some, hX.r0, hX.tape.I, e3]
end URFD

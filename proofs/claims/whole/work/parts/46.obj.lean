/-! The object whole; copies of nights; nights that go on -/
def oX (s : List (Nat ⊕ (Nat × Nat))) (R : Nat → Nat → Option Nat) (L L' K K' : Nat) : Prop :=
  (s[0]? = some (.inl 9) ∧ R 0 0 = some 1 ∧ R 0 1 = some L ∧ R 0 2 = some L' ∧ R 0 3 = some K ∧ R 0 4 = some K' ∧ R 0 5 = some 33 ∧ R 0 6 = some 39 ∧ R 0 7 = some 45 ∧ R 0 8 = some 48 ∧ R 0 11 = some 49 ∧ R 0 12 = some 50 ∧ R 0 13 = some 54 ∧ R 0 14 = some 55) ∧
  (oTape s R 1 ∧ oLand s R L ∧ oLand s R L' ∧ oScript s R K ∧ oScript s R K' ∧ oNight s R 33 ∧ oNight s R 39 ∧ oSeen s R 45 ∧ s[48]? = some (.inr (4, 16)) ∧ s[49]? = some (.inr (5, 4)) ∧ oLine s R 50 ∧ oDraws s R 54 ∧ s[55]? = some (.inr (0, 31))) ∧
  (∀ i, i < 16 → R 48 i = some (56 + 6 * i) ∧ oNight s R (56 + 6 * i)) ∧ (∀ i, i < 4 → R 49 i = some (152 + 14 * i) ∧ oMark s R (152 + 14 * i)) ∧ oModel s R 208 ∧
  ((L = 3 ∧ L' = 14) ∨ (L = 14 ∧ L' = 3)) ∧ ((K = 25 ∧ K' = 29) ∨ (K = 29 ∧ K' = 25))
section URO
variable {s : List (Nat ⊕ (Nat × Nat))} {f : Nat → Nat → Int32} {g : Nat → Nat → Int64} {R : Nat → Nat → Option Nat} {L L' K K' k i : Nat} {v : Int32}
theorem oX.rcv (h : oX s R L L' K K') : ur_isO (s, f, g, R) 0 9 = true := vO h.1.1
theorem oX.I (h : oX s R L L' K K') : ur_fI (s, f, g, R) 0 9 k = some (f 0 k) := vfI h.1.1 rfl
theorem oX.pI (h : oX s R L L' K K') : ur_pI (s, f, g, R) 0 9 k v = some (s, ur_u f 0 k v, g, R) := vpI h.1.1
theorem oX.eL (h : oX s R L L' K K') : (L = 3 ∧ L' = 14) ∨ (L = 14 ∧ L' = 3) := h.2.2.2.2.2.1
theorem oX.eK (h : oX s R L L' K K') : (K = 25 ∧ K' = 29) ∨ (K = 29 ∧ K' = 25) := h.2.2.2.2.2.2
theorem oX.r0 (h : oX s R L L' K K') : ur_fR (s, f, g, R) 0 9 0 = some 1 := vfR h.1.1 rfl h.1.2.1 (by decide)
theorem oX.r1 (h : oX s R L L' K K') : ur_fR (s, f, g, R) 0 9 1 = some L := vfR h.1.1 rfl h.1.2.2.1 (by have := h.eL; unfold ur_base; omega)
theorem oX.r2 (h : oX s R L L' K K') : ur_fR (s, f, g, R) 0 9 2 = some L' := vfR h.1.1 rfl h.1.2.2.2.1 (by have := h.eL; unfold ur_base; omega)
theorem oX.r3 (h : oX s R L L' K K') : ur_fR (s, f, g, R) 0 9 3 = some K := vfR h.1.1 rfl h.1.2.2.2.2.1 (by have := h.eK; unfold ur_base; omega)
theorem oX.r4 (h : oX s R L L' K K') : ur_fR (s, f, g, R) 0 9 4 = some K' := vfR h.1.1 rfl h.1.2.2.2.2.2.1 (by have := h.eK; unfold ur_base; omega)
theorem oX.r5 (h : oX s R L L' K K') : ur_fR (s, f, g, R) 0 9 5 = some 33 := vfR h.1.1 rfl h.1.2.2.2.2.2.2.1 (by decide)
theorem oX.r6 (h : oX s R L L' K K') : ur_fR (s, f, g, R) 0 9 6 = some 39 := vfR h.1.1 rfl h.1.2.2.2.2.2.2.2.1 (by decide)
theorem oX.r7 (h : oX s R L L' K K') : ur_fR (s, f, g, R) 0 9 7 = some 45 := vfR h.1.1 rfl h.1.2.2.2.2.2.2.2.2.1 (by decide)
theorem oX.r8 (h : oX s R L L' K K') : ur_fR (s, f, g, R) 0 9 8 = some 48 := vfR h.1.1 rfl h.1.2.2.2.2.2.2.2.2.2.1 (by decide)
theorem oX.r11 (h : oX s R L L' K K') : ur_fR (s, f, g, R) 0 9 11 = some 49 := vfR h.1.1 rfl h.1.2.2.2.2.2.2.2.2.2.2.1 (by decide)
theorem oX.r12 (h : oX s R L L' K K') : ur_fR (s, f, g, R) 0 9 12 = some 50 := vfR h.1.1 rfl h.1.2.2.2.2.2.2.2.2.2.2.2.1 (by decide)
theorem oX.r13 (h : oX s R L L' K K') : ur_fR (s, f, g, R) 0 9 13 = some 54 := vfR h.1.1 rfl h.1.2.2.2.2.2.2.2.2.2.2.2.2.1 (by decide)
theorem oX.r14 (h : oX s R L L' K K') : ur_fR (s, f, g, R) 0 9 14 = some 55 := vfR h.1.1 rfl h.1.2.2.2.2.2.2.2.2.2.2.2.2.2 (by decide)
theorem oX.tape (h : oX s R L L' K K') : oTape s R 1 := h.2.1.1
theorem oX.land (h : oX s R L L' K K') : oLand s R L := h.2.1.2.1
theorem oX.draft (h : oX s R L L' K K') : oLand s R L' := h.2.1.2.2.1
theorem oX.scr (h : oX s R L L' K K') : oScript s R K := h.2.1.2.2.2.1
theorem oX.scrd (h : oX s R L L' K K') : oScript s R K' := h.2.1.2.2.2.2.1
theorem oX.now (h : oX s R L L' K K') : oNight s R 33 := h.2.1.2.2.2.2.2.1
theorem oX.tri (h : oX s R L L' K K') : oNight s R 39 := h.2.1.2.2.2.2.2.2.1
theorem oX.seen (h : oX s R L L' K K') : oSeen s R 45 := h.2.1.2.2.2.2.2.2.2.1
theorem oX.line (h : oX s R L L' K K') : oLine s R 50 := h.2.1.2.2.2.2.2.2.2.2.2.2.1
theorem oX.drs (h : oX s R L L' K K') : oDraws s R 54 := h.2.1.2.2.2.2.2.2.2.2.2.2.2.1
theorem oX.keep (h : oX s R L L' K K') : s[55]? = some (.inr (0, 31)) := h.2.1.2.2.2.2.2.2.2.2.2.2.2.2
theorem oX.past (h : oX s R L L' K K') (hi : i < 16) : ur_aR (s, f, g, R) 48 (nI i) = some (56 + 6 * i) := vaR h.2.1.2.2.2.2.2.2.2.2.1 (Or.inl rfl) hi (by decide) (h.2.2.1 i hi).1 (by unfold ur_base; omega)
theorem oX.pastN (h : oX s R L L' K K') (hi : i < 16) : oNight s R (56 + 6 * i) := (h.2.2.1 i hi).2
theorem oX.mark (h : oX s R L L' K K') (hi : i < 4) : ur_aR (s, f, g, R) 49 (nI i) = some (152 + 14 * i) := vaR h.2.1.2.2.2.2.2.2.2.2.2.1 (Or.inr rfl) hi (by decide) (h.2.2.2.1 i hi).1 (by unfold ur_base; omega)
theorem oX.markM (h : oX s R L L' K K') (hi : i < 4) : oMark s R (152 + 14 * i) := (h.2.2.2.1 i hi).2
theorem oX.M (h : oX s R L L' K K') : oModel s R 208 := h.2.2.2.2.1
end URO
/-- nights alike in all that counts -/
def reqv (V V' : Nat → Nat → Int32) : Prop := (∀ i k, 1 ≤ i → i ≤ 5 → k < 5 → V' i k = V i k) ∧ (∀ k, 5 ≤ k → k ≤ 8 → V' 0 k = V 0 k)
theorem reqv.refl {V : Nat → Nat → Int32} : reqv V V := ⟨fun _ _ _ _ _ => rfl, fun _ _ _ => rfl⟩
theorem reqv.trans {V V' V'' : Nat → Nat → Int32} (h : reqv V V') (h' : reqv V' V'') : reqv V V'' := ⟨fun i k h1 h2 h3 => (h'.1 i k h1 h2 h3).trans (h.1 i k h1 h2 h3), fun k h1 h2 => (h'.2 k h1 h2).trans (h.2 k h1 h2)⟩
theorem rN.eqv {V V' : Nat → Nat → Int32} {U : Int32} {N P : Nat} {S S' : Nat → Int32} (hP : P ≤ 5) (hv : reqv V V') (hs : ∀ k, k < 29 → S' k = S k) (h : rN V U N P S) : rN V' U N P S' := by
  unfold rN at *
  obtain ⟨h1, h2, h3, h4, h5⟩ := h
  rw [hv.2 5 (by decide) (by decide), hv.2 6 (by decide) (by decide), hv.2 7 (by decide) (by decide), hv.2 8 (by decide) (by decide), hs 0 (by decide), hs 1 (by decide), hs 2 (by decide), hs 3 (by decide)]
  refine ⟨h1, fun p hp => ?_, fun p hp hp5 => ?_, fun p hp => ?_, h5⟩
  · rw [hs (4 + p) (by omega), hs (14 + p) (by omega), hs (19 + p) (by omega), hs (24 + p) (by omega), hv.1 1 p (by decide) (by decide) (by omega), hv.1 2 p (by decide) (by decide) (by omega), hv.1 4 p (by decide) (by decide) (by omega), hv.1 5 p (by decide) (by decide) (by omega)]
    exact h2 p hp
  · rw [hs (24 + p) (by omega)]
    exact h3 p hp hp5
  · rw [hs (9 + p) (by omega), hv.1 1 p (by decide) (by decide) (by omega), hv.1 2 p (by decide) (by decide) (by omega), hv.1 3 p (by decide) (by decide) (by omega)]
    exact h4 p hp
/-- a land and a night that some reference bears out -/
def wfV (l V : Nat → Nat → Int32) (N P : Nat) : Prop := ∃ f b S, rL f b l N P ∧ rN V (l 0 9) N P S
section URQ
variable {l V V' : Nat → Nat → Int32} {N P k p j w : Nat} {E : Int32 → Int32 → Int32 → Int32 → Int32} {x y : Int32}
theorem wfV.r8 (h : wfV l V N P) : N ≤ 8 := by obtain ⟨f, b, S, hl, hn⟩ := h; exact hl.1.1
theorem wfV.p5 (h : wfV l V N P) : P ≤ 5 := by obtain ⟨f, b, S, hl, hn⟩ := h; exact hl.1.2
theorem wfV.eqv (h : wfV l V N P) (hv : reqv V V') : wfV l V' N P := by
  obtain ⟨f, b, S, hl, hn⟩ := h
  exact ⟨f, b, S, hl, hn.eqv hl.1.2 hv (fun _ _ => rfl)⟩
theorem wfV.ok (h : wfV l V N P) : okV l V P := by obtain ⟨f, b, S, hl, hn⟩ := h; exact r_okV hl hn
theorem wfV.st (h : wfV l V N P) (p : Nat) (hp : p < P) : ∃ w, w < 8 ∧ V 1 p = nI w := by
  obtain ⟨f, b, S, hl, hn⟩ := h
  obtain ⟨w, hw, e, -⟩ := hn.2.2.2.1 p hp
  exact ⟨w, by have := hl.1.1; omega, e⟩
theorem wfV.fl (h : wfV l V N P) (j : Nat) : sm8 (flV l V N P j) := by obtain ⟨f, b, S, hl, hn⟩ := h; exact r_flsm hl hn
theorem wfV.pas (h : wfV l V N P) : wfV l (pasV l P V).2 N P := by
  obtain ⟨f, b, S, hl, hn⟩ := h
  exact ⟨f, b, _, hl, (r_pas hl hn).2⟩
theorem wfV.fo (h : wfV l V N P) (hk : lnX N P k x y p j) : wfV l (foV E l V N P k p j).2 N P := by
  obtain ⟨k1, k2, k5⟩ := hk
  match k, k1, k2, k5 with
  | 0, k1, k2, _ =>
    obtain ⟨hp, -⟩ := k1 (by decide)
    obtain ⟨hj, -⟩ := k2 (Or.inl rfl)
    show wfV l (bif wkV l V p j (ix (V 1 p)) then twV V p j else V) N P
    cases hc : wkV l V p j (ix (V 1 p)) with
    | false => exact h
    | true =>
      obtain ⟨f, b, S, hl, hn⟩ := h
      exact ⟨f, b, _, hl, r_tw hl hn hp hj hc⟩
  | 1, k1, k2, _ =>
    obtain ⟨hp, -⟩ := k1 (by decide)
    obtain ⟨hj, -⟩ := k2 (Or.inr (Or.inl rfl))
    show wfV l (bif shV l V P p j (ix (V 1 p)) then tsV V p j (syV E l V p j (V 0 7)) else V) N P
    cases hc : shV l V P p j (ix (V 1 p)) with
    | false => exact h
    | true =>
      obtain ⟨w, hw8, hw⟩ := h.st p hp
      have hix : ix (V 1 p) = w := by rw [hw, ix_nI (by omega)]
      rw [hix] at hc
      obtain ⟨f, b, S, hl, hn⟩ := h
      obtain ⟨m, m1, m2, m3⟩ := cl30_is (E (l 2 j) (V 4 p) (l 6 p) (V 0 7))
      have hsy : syV E l V p j (V 0 7) = nI m := m3
      rw [hsy]
      exact ⟨f, b, _, hl, r_ts hl hn hp hj hw hw8 hc m2⟩
  | 2, k1, k2, _ =>
    obtain ⟨hp, -⟩ := k1 (by decide)
    show wfV l (bif skV l V p then tpV V p else V) N P
    cases hc : skV l V p with
    | false => exact h
    | true =>
      obtain ⟨f, b, S, hl, hn⟩ := h
      exact ⟨f, b, _, hl, r_tp hl hn hp⟩
  | 3, k1, k2, _ =>
    obtain ⟨f, b, S, hl, hn⟩ := h
    exact ⟨f, b, _, hl, r_tb hl hn⟩
  | 4, k1, k2, _ => exact h.pas
  | k + 5, _, _, k5 => exact absurd k5 (by omega)
theorem wfV.hs (h : wfV l V N P) (hj : j < N) (hu : bt (l 0 9) j = true) : fsP (fun q => decide (V 1 q = nI j)) P 0 = fsP (fun q => inV V q && decide (V 1 q = nI j)) P 0 := by
  obtain ⟨f, b, S, hl, hn⟩ := h
  have h8 := hl.1.1
  refine fsP_congr P 0 (fun q _ hq => ?_)
  obtain ⟨w, hw, e1, ⟨e2, e3⟩ | ⟨-, k, z, hk, e2, -⟩⟩ := hn.2.2.2.1 q (by omega)
  · rw [e1, d_eq (show w < 2 ^ 31 by omega) (show j < 2 ^ 31 by omega), decide_eq_false (show ¬ w = j from fun z => by rw [z, hu] at e3; cases e3), Bool.and_false]
  · have : inV V q = true := by unfold inV; rw [e2, decide_eq_false (nI_ne_m1 (show k < 2 ^ 31 by omega))]; rfl
    rw [this, Bool.true_and]
end URQ
/-- nights that go on -/
def laV (l : Nat → Nat → Int32) (P : Nat) (V : Nat → Nat → Int32) (k : Nat) : Nat → Nat → Int32 := itr (fun _ V => (pasV l P V).2) k V
def fsT (t : (Nat → Nat → Int32) → Bool) (l : Nat → Nat → Int32) (P : Nat) : Nat → Nat → (Nat → Nat → Int32) → Int32
  | 0, _, _ => -1
  | n + 1, k, V => bif t V then nI k else fsT t l P n (k + 1) (pasV l P V).2
section URC2
variable {s : List (Nat ⊕ (Nat × Nat))} {f l V : Nat → Nat → Int32} {g : Nat → Nat → Int64} {R : Nat → Nat → Option Nat} {n o L b d j p P N w q k : Nat} {r x y : Int32} {E : Int32 → Int32 → Int32 → Int32 → Int32}
theorem c_copy (hN : oNight s R n) (hO : oNight s R o) (hd : n + 6 ≤ o ∨ o + 6 ≤ n) : ∃ f', ur_call ur_G (d + 1) 41 [.ref n, .ref o] (s, f, g, R) = some (0, (s, f', g, R)) ∧ reqv (blk f o) (blk f' n) ∧ eqT (TN n) f f' := by
  have c : ∀ (i : Nat) (f : Nat → Nat → Int32), 1 ≤ i → i ≤ 5 → s[o + i]? = some (.inr (0, 5)) → s[n + i]? = some (.inr (0, 5)) → ur_cpy (s, f, g, R) (o + i) 0 (n + i) 0 5 = some (s, ur_row f (n + i) (va_cpy (f (o + i)) (f (n + i)) 0 0 5), g, R) := fun i f _ _ h1 h2 => vcpy (n := 5) h1 h2 (by decide) (by decide) (by decide)
  have c1 := fun f => c 1 f (by decide) (by decide) hO.s1 hN.s1
  have c2 := fun f => c 2 f (by decide) (by decide) hO.s2 hN.s2
  have c3 := fun f => c 3 f (by decide) (by decide) hO.s3 hN.s3
  have c4 := fun f => c 4 f (by decide) (by decide) hO.s4 hN.s4
  have c5 := fun f => c 5 f (by decide) (by decide) hO.s5 hN.s5
  obtain ⟨f1, hf1⟩ : ∃ f1, f1 = ur_row f (n + 1) (va_cpy (f (o + 1)) (f (n + 1)) 0 0 5) := ⟨_, rfl⟩
  obtain ⟨f2, hf2⟩ : ∃ f2, f2 = ur_row f1 (n + 2) (va_cpy (f1 (o + 2)) (f1 (n + 2)) 0 0 5) := ⟨_, rfl⟩
  obtain ⟨f3, hf3⟩ : ∃ f3, f3 = ur_row f2 (n + 3) (va_cpy (f2 (o + 3)) (f2 (n + 3)) 0 0 5) := ⟨_, rfl⟩
  obtain ⟨f4, hf4⟩ : ∃ f4, f4 = ur_row f3 (n + 4) (va_cpy (f3 (o + 4)) (f3 (n + 4)) 0 0 5) := ⟨_, rfl⟩
  obtain ⟨f5, hf5⟩ : ∃ f5, f5 = ur_row f4 (n + 5) (va_cpy (f4 (o + 5)) (f4 (n + 5)) 0 0 5) := ⟨_, rfl⟩
  have t1 : eqT (TN n) f f1 := by rw [hf1]; exact eqT_row (fun k => by unfold TN; omega)
  have t2 : eqT (TN n) f f2 := t1.trans (by rw [hf2]; exact eqT_row (fun k => by unfold TN; omega))
  have t3 : eqT (TN n) f f3 := t2.trans (by rw [hf3]; exact eqT_row (fun k => by unfold TN; omega))
  have t4 : eqT (TN n) f f4 := t3.trans (by rw [hf4]; exact eqT_row (fun k => by unfold TN; omega))
  have t5 : eqT (TN n) f f5 := t4.trans (by rw [hf5]; exact eqT_row (fun k => by unfold TN; omega))
  have oo : ∀ i, i ≤ 5 → ∀ k, ¬ TN n (o + i) k := fun i hi k z => by unfold TN at z; omega
  have hv : ∀ (A B : Nat → Int32) k, k < 5 → va_cpy A B 0 0 5 k = A k := fun A B k hk => by
    unfold va_cpy
    rw [if_pos (by omega), Nat.zero_add, Nat.sub_zero]
  refine ⟨ur_u (ur_u (ur_u (ur_u f5 n 5 (f o 5)) n 6 (f o 6)) n 7 (f o 7)) n 8 (f o 8), ur_cl hN.rcv rfl (e_X5_copyFrom_0 _ _ _ ?_), ⟨?_, ?_⟩, ?_⟩
  · have e5 : f5 o = f o := t5.row (oo 0 (by decide))
    simp only [hO.r0, hN.r0, hO.r1, hN.r1, hO.r2, hN.r2, hO.r3, hN.r3, hO.r4, hN.r4, Option.bind_some, c1, c2, c3, c4, c5, ← hf1, ← hf2, ← hf3, ← hf4, ← hf5, hO.I, hN.pI, ur_ua (show o ≠ n by omega), e5]
  · intro i k h1 h2 h3
    show (ur_u (ur_u (ur_u (ur_u f5 n 5 (f o 5)) n 6 (f o 6)) n 7 (f o 7)) n 8 (f o 8)) (n + i) k = f (o + i) k
    rw [ur_ua (by omega), ur_ua (by omega), ur_ua (by omega), ur_ua (by omega)]
    have : i = 1 ∨ i = 2 ∨ i = 3 ∨ i = 4 ∨ i = 5 := by omega
    rcases this with rfl | rfl | rfl | rfl | rfl
    · rw [hf5, ur_ra (by omega), hf4, ur_ra (by omega), hf3, ur_ra (by omega), hf2, ur_ra (by omega), hf1, ur_rs, hv _ _ _ h3]
    · rw [hf5, ur_ra (by omega), hf4, ur_ra (by omega), hf3, ur_ra (by omega), hf2, ur_rs, hv _ _ _ h3, t1.row (oo 2 (by decide))]
    · rw [hf5, ur_ra (by omega), hf4, ur_ra (by omega), hf3, ur_rs, hv _ _ _ h3, t2.row (oo 3 (by decide))]
    · rw [hf5, ur_ra (by omega), hf4, ur_rs, hv _ _ _ h3, t3.row (oo 4 (by decide))]
    · rw [hf5, ur_rs, hv _ _ _ h3, t4.row (oo 5 (by decide))]
  · intro k h1 h2
    show (ur_u (ur_u (ur_u (ur_u f5 n 5 (f o 5)) n 6 (f o 6)) n 7 (f o 7)) n 8 (f o 8)) n k = f o k
    have : k = 5 ∨ k = 6 ∨ k = 7 ∨ k = 8 := by omega
    rcases this with rfl | rfl | rfl | rfl
    · rw [ur_un (by decide), ur_un (by decide), ur_un (by decide), ur_us]
    · rw [ur_un (by decide), ur_un (by decide), ur_us]
    · rw [ur_un (by decide), ur_us]
    · rw [ur_us]
  · exact (((t5.u (by unfold TN; omega)).u (by unfold TN; omega)).u (by unfold TN; omega)).u (by unfold TN; omega)
/-- rows of 29 copied -/
theorem t_copies {a1 a2 n1 n2 i0 j0 : Nat} (h1 : s[a1]? = some (.inr (0, n1))) (h2 : s[a2]? = some (.inr (0, n2))) (hi : i0 + 29 ≤ n1) (hj : j0 + 29 ≤ n2) (hn1 : n1 < 2 ^ 31) (hn2 : n2 < 2 ^ 31) (hne : a1 ≠ a2) : ∃ f', ur_call ur_G (d + 1) 172 [.ref a1, .int (nI i0), .ref a2, .int (nI j0)] (s, f, g, R) = some (0, (s, f', g, R)) ∧ (∀ k, k < 29 → f' a2 (j0 + k) = f a1 (i0 + k)) ∧ eqT (fun a k => a = a2 ∧ j0 ≤ k ∧ k < j0 + 29) f f' := by
  have main := lp (n := 29) (Fn := fun j (f' : Nat → Nat → Int32) => ur_at ur_G d 172 (3, [some (.ref a1), some (.int (nI i0)), some (.ref a2), some (.int (nI j0)), some (.int (nI j))], [], (s, f', g, R)))
    (I := fun j f' => (∀ k, k < j → f' a2 (j0 + k) = f a1 (i0 + k)) ∧ eqT (fun a k => a = a2 ∧ j0 ≤ k ∧ k < j0 + 29) f f')
    (Q := fun r => r.1 = 0 ∧ ∃ f', r.2 = (s, f', g, R) ∧ (∀ k, k < 29 → f' a2 (j0 + k) = f a1 (i0 + k)) ∧ eqT (fun a k => a = a2 ∧ j0 ≤ k ∧ k < j0 + 29) f f') ?_ ?_ f ⟨fun k hk => absurd hk (by omega), eqT.refl⟩
  · obtain ⟨⟨v, m⟩, e1, e2, f', e3, e4, e5⟩ := main
    refine ⟨f', ur_cl rfl rfl (e_X10_copies_0 _ _ _ _ _ ?_), e4, e5⟩
    dsimp only at e2 e3
    subst e2 e3
    exact e1
  · intro j f1 hj29 ⟨i1, i2⟩
    refine ⟨ur_u f1 a2 (j0 + j) (f1 a1 (i0 + j)), ⟨fun k hk => ?_, i2.u ⟨rfl, by omega, by omega⟩⟩, fun r hr => e_X10_copies_3 _ _ _ _ _ _ ?_⟩
    · by_cases e : k = j
      · subst e
        rw [ur_us, i2 a1 _ (fun z => hne z.1)]
      · rw [ur_un (by omega)]
        exact i1 k (by omega)
    · rw [show (29 : Int32) = nI 29 from rfl, d_le (by decide) (by omega), decide_eq_false (show ¬ 29 ≤ j by omega), cond_false, nI_add, nI_add, vaI h1 (by omega) hn1, Option.bind_some, vwI h2 (by omega) hn2, Option.bind_some, nI_1]
      exact hr
  · intro f1 ⟨i1, i2⟩
    exact ⟨(0, (s, f1, g, R)), e_X10_copies_3 _ _ _ _ _ _ rfl, rfl, f1, rfl, i1, i2⟩
end URC2

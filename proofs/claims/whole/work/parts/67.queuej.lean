/-! queue: the call -/
section URQJ
variable {s : List (Nat ⊕ (Nat × Nat))} {f f' f1 f2 l V V' : Nat → Nat → Int32} {g : Nat → Nat → Int64} {R : Nat → Nat → Option Nat} {L L' K K' d b j p P N w n k a i z m o : Nat} {x y c e X n0 : Int32} {E : Int32 → Int32 → Int32 → Int32 → Int32} {T : Nat → Nat → Nat}
theorem syV_eqv (hv : reqv V V') (hp : p < 5) (n : Int32) : syV E l V' p j n = syV E l V p j n := by
  unfold syV
  rw [hv.1 4 p (by decide) (by decide) hp]
theorem fiV_eqv (hv : reqv V V') (hp : p < 5) : fiV V' l p = fiV V l p := by
  unfold fiV ltV
  rw [inV_eqv hv hp, hv.2 5 (by decide) (by decide)]
theorem freeT_eqv (hv : reqv V V') (hP : P ≤ 5) : freeT P j V' = freeT P j V := by
  unfold freeT
  rw [fsP_congr (Q' := fun q => decide (V 1 q = nI j)) P 0 (fun q _ hq => by rw [hv.1 1 q (by decide) (by decide) (by omega)])]
theorem x_frees_no (hX : oX s R L L' K K') (hc : cX s R f 33 L l V N P) (hn : inR x N = false ∨ ∃ j, j < N ∧ x = nI j ∧ bt (l 0 9) j = false) : ur_call ur_G (d + 7) 97 [.ref 0, .int x] (s, f, g, R) = some (-1, (s, f, g, R)) := by
  refine ur_cl hX.rcv rfl (e_X9_frees_0 _ _ _ ?_)
  rcases hn with hx | ⟨j, hj, rfl, hu⟩
  · simp only [hX.r1, Option.bind_some, c_uns_out hc hx]; rfl
  · simp only [hX.r1, Option.bind_some, c_uns hc hj, hu]; rfl
theorem x_frees_y (h : xC s R f L L' K K' l V N P E) (hj : j < N) (hu : bt (l 0 9) j = true) : ∃ V' f', reqv V V' ∧ ur_call ur_G (d + 7) 97 [.ref 0, .int (nI j)] (s, f, g, R) = some (fsT (freeT P j) l P 61 0 V', (s, f', g, R)) ∧ eqT SX f f' := by
  obtain ⟨V', f1, hv, c1, c2⟩ := x_frees (d := d) (g := g) h hj
  obtain ⟨hX, hc, -, -⟩ := h
  refine ⟨V', f1, hv, ur_cl hX.rcv rfl (e_X9_frees_0 _ _ _ ?_), c2⟩
  simp only [hX.r1, Option.bind_some, c_uns hc hj, hu, ub_0, c1]
  rfl
/-- the reference's loop over persons -/
theorem m_qfit {F : Int32} (h : cM s R f b l V N P E) (r : ur_V) (hr : ur_at ur_G (d + 3) 233 (28, [some (.ref b), some (.int x), some (.int y), some (.int F), some (.int (sB (fiV V l) P)), some (.int (nI P))], [], (s, f, g, R)) = some r) : ur_at ur_G (d + 3) 233 (28, [some (.ref b), some (.int x), some (.int y), some (.int F), some (.int 0), some (.int 0)], [], (s, f, g, R)) = some r := by
  have hM := h.oM
  have h5 := h.p5
  have a2 : ur_aI (s, f, g, R) (b + 2) 0 2 = some (f (b + 2) 2) := hM.a2 (show 2 < 6 by decide)
  refine sB_loop (P := fiV V l) (n := P) (Fn := fun p v => ur_at ur_G (d + 3) 233 (28, [some (.ref b), some (.int x), some (.int y), some (.int F), some (.int v), some (.int (nI p))], [], (s, f, g, R))) (fun p v hp hv => ?_) hr
  refine e_X10_queue_28 _ _ _ _ _ _ _ ?_
  have hf : ftM f b p = fiV V l p := r_fit h.hl h.hn hp
  simp only [hM.r10, Option.bind_some, a2, h.ep, d_le (show P < 2 ^ 31 by omega) (show p < 2 ^ 31 by omega), decide_eq_false (show ¬ P ≤ p by omega), cond_false, t_isFit hM (show p < 5 by omega), hf, ub_0, nI_1]
  revert hv
  cases fiV V l p with
  | false => exact fun hv => hv
  | true => exact fun hv => hv
theorem j_queue (h : JV s R f g L L' K K' l V N P E) : JQ s R f g (d + 60) 116 233 [.int x, .int y] := by
  have hX := h.oX
  have hc := h.cX
  have h8 := h.r8
  have h5 := h.p5
  have hO := h.cM.oM
  have no : (inR x N = false ∨ ∃ j, j < N ∧ x = nI j ∧ bt (l 0 9) j = false) → JQ s R f g (d + 60) 116 233 [.int x, .int y] := fun hn => by
    refine ⟨-2, f, ur_u f 208 0 0, ur_cl hX.rcv rfl (e_X9_queue_0 _ _ _ _ ?_), ur_cl hO.rcv rfl (e_X10_queue_0 _ _ _ _ ?_), QX_x eqT.refl (eqT_u SR_0)⟩
    · rw [x_frees_no hX hc hn]
      rfl
    · rcases hn with hx | ⟨j, hj, rfl, hu⟩
      · simp only [hO.pI, Option.bind_some, m_uns_out (m_thr h.cM) hx]; rfl
      · simp only [hO.pI, Option.bind_some, m_uns (m_thr h.cM) hj, hu]; rfl
  rcases inR_c x (show N < 2 ^ 31 by omega) with ⟨j, hj, rfl⟩ | hx
  · cases hu : bt (l 0 9) j with
    | false => exact no (Or.inr ⟨j, hj, rfl, hu⟩)
    | true =>
      obtain ⟨V', f1, hv, c1, c2⟩ := x_frees_y (d := d + 52) (g := g) h.xC hj hu
      have h1 := h.q (c2.mono (fun _ _ z => Or.inl z))
      rcases fsT_is (t := freeT P j) (l := l) (P := P) 61 0 V' with hF | ⟨k, -, hk, hF⟩
      · -- never free
        rw [hF] at c1
        have hM1 := (h.cM.sx c2).eqv hv
        have h0 := m_thr hM1
        obtain ⟨f2, d1, d2⟩ := m_freesOf (d := d + 53) (g := g) h0 hj hu
        rw [hF] at d1
        have hM2 := h0.sr d2
        have a2 : ur_aI (s, f2, g, R) (208 + 2) 0 2 = some (f2 (208 + 2) 2) := hO.a2 (show 2 < 6 by decide)
        refine ⟨-2, f1, f2, ur_cl hX.rcv rfl (e_X9_queue_0 _ _ _ _ ?_), ur_cl hO.rcv rfl (e_X10_queue_0 _ _ _ _ ?_), QX_x c2 ((eqT_u SR_0).trans d2)⟩
        · rw [c1]; rfl
        · simp only [hO.pI, Option.bind_some, m_uns h0 hj, hu, ub_n0, cond_true, d1]
          refine m_qfit (d := d + 56) hM2 _ (e_X10_queue_28 _ _ _ _ _ _ _ ?_)
          simp only [hO.r10, Option.bind_some, a2, hM2.ep, d_le (show P < 2 ^ 31 by omega) (show P < 2 ^ 31 by omega), Nat.le_refl, decide_true, cond_true]
          rfl
      · rw [hF] at c1
        obtain ⟨n0, hn0⟩ : ∃ n0, n0 = V 0 7 + (bif freeT P j V then 0 else 1) := ⟨_, rfl⟩
        obtain ⟨T, hTd⟩ : ∃ T : Nat → Nat → Nat, ∀ p q, T p q = ix (syV E l V p j (n0 + nI q)) := ⟨_, fun _ _ => rfl⟩
        have hTT : ∀ p q, syV E l V p j (n0 + nI q) = nI (T p q) ∧ T p q ≤ 30 := fun p q => by
          obtain ⟨m, m1, m2, m3⟩ := cl30_is (E (l 2 j) (V 4 p) (l 6 p) (n0 + nI q))
          have e1 : syV E l V p j (n0 + nI q) = nI m := m3
          rw [hTd, e1, ix_nI (by omega)]
          exact ⟨rfl, m2⟩
        obtain ⟨f2, row, st, s1, s2, s3, s4, s5, s6⟩ := x_settle (d := d + 47) (g := g) (T := T) hX h1.cX h1.lw h1.wf hj hn0 (fun p q _ _ => (hTT p q).1) (fun p q => (hTT p q).2) (show k ≤ 60 by omega)
        have t2 : eqT SX f f2 := c2.trans s6
        have hM1 := (h.cM.sx t2).eqv hv
        have h0 := m_thr hM1
        obtain ⟨f3, d1, d2⟩ := m_freesOf (d := d + 53) (g := g) h0 hj hu
        rw [hF] at d1
        have hM3 := h0.sr d2
        obtain ⟨z, hz⟩ : ∃ z, z = cN (sB (fiV V l) P) 5 := ⟨_, rfl⟩
        have hz5 : z ≤ 5 := by rw [hz]; exact cN_le _ 5
        rw [← hz] at s3 s4 s5
        have hlb : ∀ i, P ≤ i → i < 32 → bt (sB (fiV V l) P) i = false := fun i q1 q2 => by
          rw [sB_bt _ P (by omega) i q2, decide_eq_false (show ¬ i < P by omega), Bool.false_and]
        have ecn : cnB (sB (fiV V l) P) = nI z := by
          rw [cnB_cN, cN_top (N := 5) 8 (by decide) (fun i q1 q2 => hlb i (by omega) (by omega)), hz]
        have efi : sB (fiV V' l) P = sB (fiV V l) P := sB_congr (fun p hp => fiV_eqv hv (by omega))
        have a2 : ur_aI (s, f3, g, R) (208 + 2) 0 2 = some (f3 (208 + 2) 2) := hO.a2 (show 2 < 6 by decide)
        obtain ⟨f4, hf4⟩ : ∃ f4, f4 = ur_u f3 208 53 (-1) := ⟨_, rfl⟩
        have t4 : eqT (SR 208) f3 f4 := by rw [hf4]; exact eqT_u (by unfold SR; omega)
        have hM4 := hM3.sr t4
        obtain ⟨f5, r1, r2, r3, r4⟩ := m_rows (d := d + 54 - z) (g := g) (T := T) (n0 := n0) (z := z) hM4 hj hz5 (fun p q hp hq => by rw [syV_eqv hv (by omega)]; exact (hTT p q).1) (fun p q => (hTT p q).2) z (sB (fiV V l) P) 0 k 0 row st f4 eqT.refl hz.symm hlb (by omega) (by omega) (by omega) (Or.inr ⟨by rw [hf4, ur_us], s2⟩) (fun i hi => absurd hi (by omega))
        rw [show d + 54 - z + z + 5 = d + 59 by omega] at r1
        obtain ⟨q1, q2, q3⟩ := r2
        have e7 : f4 (208 + 33) 1 = V 0 7 := by rw [hM4.hn.1.2.1, hv.2 7 (by decide) (by decide)]
        have a1 : ur_aI (s, f4, g, R) (208 + 33) 0 1 = some (f4 (208 + 33) 1) := hO.a33 (show 1 < 29 by decide)
        -- how it ends
        have tl : ∀ r, (bif decide (y ≠ -1) then ((ur_fR (s, f5, g, R) 208 10 52).bind fun a2 => ((ur_aI (s, f5, g, R) a2 0 y).bind fun v3 => some (v3, (s, f5, g, R)))) else some (f5 208 53, (s, f5, g, R))) = some r → ur_at ur_G (d + 59) 233 (94, [some (.ref 208), some (.int (nI j)), some (.int y), some (.int (nI k)), some (.int (sB (fiV V l) P)), none], [], (s, f3, g, R)) = some r := fun r hr => by
          refine e_X10_queue_94 _ _ _ _ _ _ ?_
          simp only [hO.pI, Option.bind_some, ← hf4, hO.r44, a1, e7]
          have r1' : ∀ s6 : Int32, V 0 7 + s6 = n0 → ur_at ur_G (d + 59) 233 (120, [some (.ref 208), none, some (.int y), none, none, none], [.int s6, .int (V 0 7), .int (nI k), .int (0 : Int32), .int (sB (fiV V l) P), .int (nI j), .ref 208], (s, f4, g, R)) = some r := fun s6 hs6 => by
            refine e_X10_queue_120 _ _ _ _ _ _ _ _ _ _ ?_
            have r1'' : ur_call ur_G (d + 59) 232 [.ref 208, .int (nI j), .int (sB (fiV V l) P), .int (0 : Int32), .int (nI k), .int n0, .int (0 : Int32)] (s, f4, g, R) = some (0, (s, f5, g, R)) := by
              have := r1
              rw [show n0 + nI 0 = n0 from Int32.add_zero n0] at this
              exact this
            rw [hs6, r1'', Option.bind_some]
            simp only [hO.I, Option.bind_some]
            exact hr
          have hfr := freeT_eqv (j := j) (P := P) hv h5
          have eF : fsT (freeT P j) l P 61 0 V' = bif freeT P j V' then nI 0 else fsT (freeT P j) l P 60 1 (pasV l P V').2 := rfl
          rw [eF, hfr] at hF
          cases hq : freeT P j V with
          | true =>
            rw [hq] at hF hn0
            have : k = 0 := ((nI_eq (a := 0) (b := k) (by decide) (by omega)).mp hF).symm
            subst this
            exact r1' 0 hn0.symm
          | false =>
            rw [hq] at hF hn0
            have hk1 : 1 ≤ k := by
              rcases fsT_is (t := freeT P j) (l := l) (P := P) 60 1 (pasV l P V').2 with q | ⟨q, h1, h2, h3⟩
              · exact absurd (q.symm.trans hF) (fun z => nI_ne_m1 (show k < 2 ^ 31 by omega) z.symm)
              · have := (nI_eq (by omega) (by omega)).mp (h3.symm.trans hF)
                omega
            rw [decide_eq_false (nI_nle (show 0 < k by omega) (show k < 2 ^ 31 by omega)), cond_false]
            exact r1' 1 hn0.symm
        have a40 : ∀ i, i < 5 → ur_aI (s, f5, g, R) (208 + 40) 0 (nI i) = some (f5 (208 + 40) i) := fun i hi => hO.a40 hi
        have head : ∀ r, (bif decide (y = -1) then ur_at ur_G (d + 59) 233 (94, [some (.ref 208), some (.int (nI j)), some (.int y), some (.int (nI k)), some (.int (sB (fiV V l) P)), none], [], (s, f3, g, R)) else bif inR y z then ur_at ur_G (d + 59) 233 (94, [some (.ref 208), some (.int (nI j)), some (.int y), some (.int (nI k)), some (.int (sB (fiV V l) P)), none], [], (s, f3, g, R)) else some (-2, (s, f3, g, R))) = some r → ur_call ur_G (d + 60) 233 [.ref 208, .int (nI j), .int y] (s, f2, g, R) = some r := fun r hr => by
          refine ur_cl hO.rcv rfl (e_X10_queue_0 _ _ _ _ ?_)
          simp only [hO.pI, Option.bind_some, m_uns h0 hj, hu, ub_n0, cond_true, d1]
          refine m_qfit (d := d + 56) hM3 _ ?_
          rw [efi]
          refine e_X10_queue_28 _ _ _ _ _ _ _ ?_
          simp only [hO.r10, Option.bind_some, a2, hM3.ep, d_le (show P < 2 ^ 31 by omega) (show P < 2 ^ 31 by omega), Nat.le_refl, decide_true, cond_true, decide_eq_false (nI_pos (show k < 2 ^ 31 by omega)), cond_false, t_bits, ecn, t_within, q_z (show z ≤ 8 by omega), ub_n0]
          exact hr
        have xh : ∀ r, (bif decide (y ≠ -1) then (bif decide (y < 0) then some (-2, (s, f2, g, R)) else (bif decide (nI z ≤ y) then some (-2, (s, f2, g, R)) else ((ur_aI (s, f2, g, R) (50 + 2) 0 y).bind fun v10 => some (v10, (s, f2, g, R))))) else some (f2 50 4, (s, f2, g, R))) = some r → ur_call ur_G (d + 60) 116 [.ref 0, .int (nI j), .int y] (s, f, g, R) = some r := fun r hr => by
          refine ur_cl hX.rcv rfl (e_X9_queue_0 _ _ _ _ ?_)
          simp only [c1, Option.bind_some, decide_eq_true (show nI k ≠ -1 from nI_ne_m1 (by omega)), cond_true, hX.r12, hX.r1, hX.r5, s1, hX.line.I, s3, hX.line.r1]
          exact hr
        by_cases hy : y = -1
        · refine ⟨nI (qB T z (sB (fiV V l) P) 0 k 0 row st).1, f2, f5, xh _ ?_, head _ ?_, QX_x t2 (((eqT_u SR_0).trans d2).trans (t4.trans (r4.mono TQm_SR)))⟩
          · rw [decide_eq_false (fun z => z hy), cond_false, s4]
          · rw [decide_eq_true hy, cond_true]
            refine tl _ ?_
            rw [decide_eq_false (fun z => z hy), cond_false, q1]
        · cases hi : inR y z with
          | true =>
            obtain ⟨i, hiz, rfl⟩ := inR_of hi (by omega)
            have a52 : ur_aI (s, f2, g, R) (50 + 2) 0 (nI i) = some (f2 (50 + 2) i) := hX.line.a2 (show i < 5 by omega)
            refine ⟨(qB T z (sB (fiV V l) P) 0 k 0 row st).2 i, f2, f5, xh _ ?_, head _ ?_, QX_x t2 (((eqT_u SR_0).trans d2).trans (t4.trans (r4.mono TQm_SR)))⟩
            · rw [decide_eq_true hy, cond_true, decide_eq_false (nI_pos (show i < 2 ^ 31 by omega)), cond_false, decide_eq_false (nI_ge hiz (by omega)), cond_false, a52, Option.bind_some, show f2 (50 + 2) i = f2 52 i from rfl, s5 i hiz]
            · rw [decide_eq_false hy, cond_false, hi, cond_true]
              refine tl _ ?_
              rw [decide_eq_true hy, cond_true, hO.r52, Option.bind_some, a40 i (by omega), Option.bind_some, q3 i hiz]
          | false =>
            refine ⟨-2, f2, f3, xh _ ?_, head _ ?_, QX_x t2 ((eqT_u SR_0).trans d2)⟩
            · rw [decide_eq_true hy, cond_true]
              unfold inR at hi
              revert hi
              cases decide (y < 0) with
              | true => intro _; rfl
              | false =>
                cases decide (nI z ≤ y) with
                | true => intro _; rfl
                | false => intro hi; cases hi
            · rw [decide_eq_false hy, cond_false, hi, cond_false]
  · exact no (Or.inl hx)
end URQJ

/-! THE LAW, WHOLE -/
theorem nO_le {m m' : ur_M} {ci : Nat} (h : ur_nO m ci = some m') : m'.1.length = m.1.length + 1 ∧ ur_sl m.1 ≤ ur_sl m'.1 := by
  obtain ⟨-, g2⟩ := ur_cond_t h
  have hm := (Option.some.inj g2).symm
  have hsh : m'.1 = m.1 ++ [.inl ci] := by rw [hm]
  rw [hsh, ur_sl_app]
  exact ⟨by simp, by omega⟩
theorem nA_le {m m' : ur_M} {t : Nat} {i : Int32} (h : ur_nA m t i = some m') : m'.1.length = m.1.length + 1 ∧ ur_sl m.1 ≤ ur_sl m'.1 := by
  obtain ⟨-, g2⟩ := ur_cond_t h
  have hm := (Option.some.inj g2).symm
  have hsh : m'.1 = m.1 ++ [.inr (t, i.toNatClampNeg)] := by rw [hm]
  rw [hsh, ur_sl_app]
  exact ⟨by simp, by omega⟩
/-- from the entry, for every script of at most 3584 ints, the law comes to its end with true -/
theorem whole_start {p : Program} {e : Env} {s : State} {m : MethodId} {below : List Frame} {meth : Method} {c : Code} (l : Launch) (hflags : l.flags = flags0) {b L : Nat} {xs : Nat → Int32} (hL : L ≤ 3584) (C0 : lw_At p s m meth c b L xs) : W p l e room_1 s m #[Value.ref b] below meth c s.heap [] 0 0 (lw_Z below #[Value.ref b] s) (entryFrame m ([Value.ref b] : List Value).toArray 7) := by
  obtain ⟨hx0, hb, hr, hml, hown, hts, hX, hbl, hlocks, hgv⟩ := id C0
  have hs : ∀ w ∈ st_F, w.before #[.ref b] s = true := flat_of_before _ hgv
  have htr : l.stackTraces = false := by unfold Launch.stackTraces; rw [hflags]; decide
  obtain ⟨ad, had, had50, hO⟩ := st_Old hts hs
  have hE := st_E hts hs
  have hts2 : ∀ w ∈ ur_T, w.before #[.ref b] s = true := fun w hw => hts w (List.mem_filter.mp hw).1
  obtain ⟨adK, adV, o1, o2, o3, o4, o5, o6, o7, o8⟩ := id hO
  obtain ⟨D, cas, hK⟩ := st_K hts2 o7 o8
  have hx : lc p s m #[.ref b] c D cas s.heap.size ad (lwA s) 7 code RL := ⟨hx0, hb, hml, hown, hts2, hK, hO, fun q h => h, Nat.le_refl _, had⟩
  have hcv : ur_cv s.heap.size ad (.ref 2050) = .ref b := by
    show (if 2050 < ur_base then Value.ref (s.heap.size + 2050) else ad (2050 - ur_base)) = _
    rw [if_neg (by decide)]
    exact had50
  have hC : lwC p l s m b c D cas ad L xs := ⟨hx, hX, hbl, hcv, hE, htr⟩
  obtain ⟨ma, vb, mc, vd, mm, e1, e2, e3, e4, e5, e6, e7, e8⟩ := mk_all
  obtain ⟨hI, ho, h252, hsl⟩ := mk_inv e8
  have n1 := nO_le e1
  have n2 := ur_call_le (d := 29) e2
  have n4 := nO_le e4
  have n5 := ur_call_le (d := 29) e5
  have n7 := nA_le e7
  have z0 : mk_0.1.length = 0 := rfl
  have hb0 : s.heap.size = s.heap.size + 0 := rfl
  have hAb : ∀ z, lwA s z → s.heap.size ≤ z := fun z h => h
  have rc : ∀ k : Nat, k ≤ 1000 → k ≤ room_1.cells + 0 := fun k h => Nat.le_trans h (by decide)
  have rs : ∀ k : Nat, k ≤ 10000 → k ≤ room_1.slots + 0 := fun k h => Nat.le_trans h (by decide)
  have k1 : ur_sl vd.2.1 ≤ 10000 := Nat.le_trans n7.2 hsl
  have k2 : ur_sl mc.1 ≤ 10000 := Nat.le_trans n5.2 k1
  have k3 : ur_sl vb.2.1 ≤ 10000 := Nat.le_trans n4.2 k2
  have k4 : ur_sl ma.1 ≤ 10000 := Nat.le_trans n2.2 k3
  obtain ⟨sh, f, g, R⟩ := mm
  have hl2 := lw_entry (b0 := s.heap.size) had [.ref 2050] (n := 7) (by decide)
  have em : ([.ref 2050] : List Value).map (ur_cv s.heap.size ad) = [.ref b] := by rw [List.map_cons, hcv]; rfl
  rw [em] at hl2
  rw [lg_entry_eq]
  have loop : lwJ p l e s m b below meth c D cas ad (252 + 0) (10000 + 6 * 0) (lw_Z below #[.ref b] s) 23 (lwL (nI (7 * 0)) none none) [] (sh, f, g, R) := lw_loop hC hr hlocks hL (by show sh.length ≤ 1000; have : sh.length = 252 := h252; omega) ho 513 0 f g R none none rfl hI
  have fin : ur_Wg p l e room_1 s m #[.ref b] below meth c D cas s.heap.size ad (lwA s) 7 0 0 (lw_Z below #[.ref b] s) (23, lwL (nI (7 * 0)) none none, [], (sh, f, g, R)) := uw_lj loop (by show sh.length ≤ 252 + 0 + 0; have : sh.length = 252 := h252; omega) (by show ur_sl sh ≤ 10000 + 6 * 0 + 0; exact hsl)
  have main : ur_Wg p l e room_1 s m #[.ref b] below meth c D cas s.heap.size ad (lwA s) 7 0 0 (lw_Z below #[.ref b] s) (0, [some (.ref 2050), none, none, none, none, none, none], [], mk_0) := by
    obtain ⟨C8, T8, N8, q8, l8⟩ := lk_13_8
    obtain ⟨C16, T16, N16, q16, l16⟩ := lk_13_16
    refine uw_new hx hAb hb0 q8 l8 e1 ⟨rc _ (by omega), rs _ k4⟩ dL_law_0 ?_
    refine ur_i_dup hx0 hb had dL_law_3 rfl ?_
    refine uw_spec (d := 29) (a := 0) (As := []) (r := [.ref 0]) (v := vb) hx hb0 lk_3_15 (by decide) e2 rfl (by decide) (by decide) ⟨rc _ (by omega), rs _ k3⟩ (by decide) dL_law_4 ?_
    refine ur_i_astore_n hx0 hb had dL_law_7 (by decide) ?_
    refine uw_new hx hAb hb0 q16 l16 e4 ⟨rc _ (by omega), rs _ k2⟩ dL_law_8 ?_
    rw [e3]
    refine ur_i_dup hx0 hb had dL_law_11 rfl ?_
    refine uw_spec (d := 29) (a := 208) (As := []) (r := [.ref 208]) (v := vd) hx hb0 lk_3_18 (by decide) e5 rfl (by decide) (by decide) ⟨rc _ (by omega), rs _ k1⟩ (by decide) dL_law_12 ?_
    refine ur_i_astore_n hx0 hb had dL_law_15 (by decide) ?_
    refine ur_i_iconst (v := 1) hx0 hb dL_law_16 rfl ?_
    refine uw_newa (at' := .long) hx hAb hb0 (t := 1) rfl ur_w0.2.2.2.1 e7 ⟨rc _ (by omega), rs _ hsl⟩ dL_law_17 ?_
    rw [e6]
    refine ur_i_astore_n hx0 hb had dL_law_19 (by decide) ?_
    refine ur_i_iconst (v := 0) hx0 hb dL_law_20 rfl ?_
    exact ur_i_istore hx0 hb had dL_law_21 (by decide) fin
  exact main _ s.heap [] 0 0 hl2 rfl (fun k q h => by simp [ur_ws, mk_0] at h) ⟨fun i j p q h => by simp [ur_ws, mk_0] at h, fun k q h => by simp [ur_ws, mk_0] at h⟩ va_S.rf (by decide) rfl rfl

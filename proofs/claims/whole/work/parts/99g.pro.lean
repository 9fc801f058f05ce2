/-! THE LAW'S OWN WALK: what is made at its beginning -/
theorem ur_call_le {d y : Nat} {as : List Value} {m : ur_M} {res : ur_V} (h : ur_call ur_G (d + 1) y as m = some res) : ur_le m res.2 := by
  obtain ⟨n, hn⟩ := ur_call_iff.mp h
  obtain ⟨g1, g2⟩ := ur_cond_t hn
  exact ur_grow ur_G n d y _ res g2
section URLG
variable {p : Program} {l : Launch} {e : Env} {R : Room} {s : State} {mid : MethodId} {args : Array Value} {below : List Frame} {meth : Method} {c : Code} {D : va_G} {cas : Nat → ClassId} {b0 : Nat} {ad : Nat → Value} {A : Nat → Prop} {nL L0 S0 Cn Sn : Nat} {Q : State → Prop}
variable {cc : ByteArray} {own : String} {pc n x idx d a ci : Nat} {ls : List (Option Value)} {st r As : List Value} {m m' : ur_M} {v : ur_V}
/-- one who goes on at S1 alone -/
noncomputable def uw_self (S1 : ur_S) (res : ur_V) : ur_S → Option ur_V := fun S => @ite _ (S = S1) (Classical.propDecidable _) (some res) none
theorem uw_self_y {S1 : ur_S} {res : ur_V} : uw_self S1 res S1 = some res := if_pos rfl
theorem uw_self_t {S1 S : ur_S} {res : ur_V} (h : uw_self S1 res S = some res) : S = S1 := by
  unfold uw_self at h
  split at h
  · assumption
  · cases h
theorem uw_lj (hs : lj p l e R s mid args below meth c D cas b0 ad A nL Cn Sn Q ((pc, ls, st, m))) (hC : m.1.length ≤ Cn + L0) (hSn : ur_sl m.1 ≤ Sn + S0) : ur_Wg p l e R s mid args below meth c D cas b0 ad A nL L0 S0 Q ((pc, ls, st, m)) :=
  fun lsr H locs cells slots hl h0 hP hD hS _ h2 h3 => hs lsr H locs cells slots hl h0 hP hD hS (by have h2 : cells + L0 = m.1.length := h2; omega) (by have h3 : slots + S0 = ur_sl m.1 := h3; omega)
theorem uw_new (hx : lc p s mid args c D cas b0 ad A nL cc own) (hAb : ∀ z, A z → b0 ≤ z) (hbase : s.heap.size = b0 + L0) {C : String} {T : u_T} {N : Nat} (hc : vwCl[ci]? = some (C, T, N)) (hclink : Cond.classLink own idx C ∈ ur_T) (hn : ur_nO m ci = some m') (hR : m'.1.length ≤ R.cells + L0 ∧ ur_sl m'.1 ≤ R.slots + S0) (hdg : decode cc pc = .ok (.new idx, 3)) (hs : ur_Wg p l e R s mid args below meth c D cas b0 ad A nL L0 S0 Q ((pc + 3, ls, .ref m.1.length :: st, m'))) : ur_Wg p l e R s mid args below meth c D cas b0 ad A nL L0 S0 Q ((pc, ls, st, m)) := by
  obtain ⟨c1, c2, c3, ⟨ty, c4, c5⟩, c6, c7⟩ := ur_cls _ _ _ _ hc
  refine ur_i_new (self := uw_self (pc + 3, ls, .ref m.1.length :: st, m') (0, m')) (call := fun _ _ _ => none) (res := (0, m')) hx.1 hx.2.1 hx.2.2.2.2.1 hx.2.2.2.2.2.1 hx.2.2.2.2.2.2.2.1 hAb (Or.inl hbase) hx.2.2.2.1 hc c1 c2 ty c4 (fun j hj => ur_ktf_def (c5 j hj)) (hx.2.2.2.2.1 _ hclink) (hx.2.2.2.2.1 _ c6) (hx.2.2.2.2.1 _ c7) hdg (fun s' h => ?_) hR (fun s' h => ?_) ?_
  · rw [uw_self_t h]; exact ⟨Nat.le_refl _, Nat.le_refl _⟩
  · rw [uw_self_t h]; exact hs
  · show (ur_nO m ci).bind _ = _
    rw [hn]
    exact uw_self_y
theorem uw_newa (hx : lc p s mid args c D cas b0 ad A nL cc own) (hAb : ∀ z, A z → b0 ≤ z) (hbase : s.heap.size = b0 + L0) {t : Nat} {i : Int32} {at' : ArrayType} (hat : ur_atc at' = some t) (harr : Cond.arrayClass (newarray.typeOf at') ∈ ur_T) (hn : ur_nA m t i = some m') (hR : m'.1.length ≤ R.cells + L0 ∧ ur_sl m'.1 ≤ R.slots + S0) (hdg : decode cc pc = .ok (.newarray at', 2)) (hs : ur_Wg p l e R s mid args below meth c D cas b0 ad A nL L0 S0 Q ((pc + 2, ls, .ref m.1.length :: r, m'))) : ur_Wg p l e R s mid args below meth c D cas b0 ad A nL L0 S0 Q ((pc, ls, .int i :: r, m)) := by
  refine ur_i_newa (self := uw_self (pc + 2, ls, .ref m.1.length :: r, m') (0, m')) (call := fun _ _ _ => none) (res := (0, m')) hx.1 hx.2.1 hx.2.2.2.2.2.1 hx.2.2.2.2.2.2.2.1 hAb (Or.inl hbase) hat (hx.2.2.2.2.1 _ harr) hdg (fun s' h => ?_) hR (fun s' h => ?_) ?_
  · rw [uw_self_t h]; exact ⟨Nat.le_refl _, Nat.le_refl _⟩
  · rw [uw_self_t h]; exact hs
  · show (ur_nA m t i).bind _ = _
    rw [hn]
    exact uw_self_y
theorem uw_spec (hx : lc p s mid args c D cas b0 ad A nL cc own) (hbase : s.heap.size = b0 + L0) (hL : ur_PL ur_GN own (idx, 3, x, 0)) (hy : x / 32 < 267) (hcall : ur_call ur_G (d + 1) (x / 32) (.ref a :: As) m = some v) (hAs : x / 2 % 16 = As.length + 1) (hR1 : d + 2 ≤ R.frames) (hR2 : 64 * (d + 2) ≤ R.locals) (hR : v.2.1.length ≤ R.cells + L0 ∧ ur_sl v.2.1 ≤ R.slots + S0) (hr : ur_cs r ≤ 8) (hdg : decode cc pc = .ok (.invokespecial idx, 3)) (hs : ur_Wg p l e R s mid args below meth c D cas b0 ad A nL L0 S0 Q ((pc + 3, ls, r, v.2))) : ur_Wg p l e R s mid args below meth c D cas b0 ad A nL L0 S0 Q ((pc, ls, As.reverse ++ .ref a :: r, m)) := by
  obtain ⟨np, hPC, hnp, hlink, hname, hret, hcls⟩ := hL
  have hnp : x / 2 % 16 = np + 1 := hnp
  have hret : (ur_N (x / 32)).2.2 = none := hret
  have hcls : (ur_G (x / 32)).2.2.2.2 < 11 := hcls
  have hname : (ur_N (x / 32)).1.name = "<init>" := hname
  obtain ⟨hOC, hPM⟩ := hPC
  obtain ⟨hx1, hb, hml, hown, hts, hK, hO, hA, hb0, had⟩ := id hx
  have hM := ur_okN hy
  obtain ⟨hcode, hplain, hmh, hmax, hini, -⟩ := id hM
  have h30 : (ur_GN (x / 32)).1.2.2.2.2 ≠ 30 := fun z => by
    have z : (ur_G (x / 32)).2.2.2.2 = 30 := z
    omega
  obtain ⟨hinst, -⟩ := hPM.2.2.1 h30
  have hle := ur_call_le hcall
  intro lsr H locs cells slots hl h0 hP hD hS q1 q2 q3
  intro T hT X
  have q2 : cells + L0 = m.1.length := q2
  have q3 : slots + S0 = ur_sl m.1 := q3
  have hP : va_P D vwCl (ur_ws b0 cas m) H := hP
  have hD : va_D A (ur_ws b0 cas m) := hD
  have q1 : m.1.length ≤ 1000 := q1
  have hz := ur_size (res := v) (v := v.2) X hT hP hS hb0 q2 (Or.inl hbase) hle.1 (Nat.le_refl _)
  obtain ⟨hmet, hrcv, -⟩ := ur_callMet l (cas := cas) (D := D) (b0 := b0) (sz := H.size) had hy hcall (Nat.le_trans hb0 hS.1) q1 hz
  have hpre := ur_pre (a := (Value.ref a :: As).map (ur_cv b0 ad)) hO hK hP hD hS hA
  have g30 : ((ur_G (x / 32)).2.2.2.2 == 30) = false := by simp; omega
  have g20 : ((ur_G (x / 32)).2.2.2.2 == 20) = false := by simp; omega
  have hb1 : ur_cv b0 ad (.ref a) = .ref (b0 + a) := by
    unfold ur_rcv at hrcv
    rw [g30, g20] at hrcv
    simp only [cond_false] at hrcv
    exact ur_cv_in (ur_small (ur_isO_t hrcv) q1)
  have hg1 := hle.1
  have hg2 := hle.2
  have hstk : (As.reverse ++ .ref a :: r).map (ur_cv b0 ad) = (As.map (ur_cv b0 ad)).reverse ++ .ref (b0 + a) :: r.map (ur_cv b0 ad) := by
    rw [List.map_append, List.map_cons, hb1, List.map_reverse]
  rw [List.map_cons, hb1] at hmet hpre
  have hroom : d + 1 + 1 ≤ R.frames ∧ 8 + ((ur_G (x / 32)).2.2.1 + 11) + 64 * (d + 1) ≤ R.locals := ⟨by omega, by omega⟩
  have hfit : cells + (v.2.1.length - m.1.length) ≤ R.cells ∧ slots + (ur_sl v.2.1 - ur_sl m.1) ≤ R.slots := ⟨by omega, by omega⟩
  have hgood := ur_goodM hM
  rw [hret] at hgood
  rw [hret] at hmet
  have hFc : ∀ q, va_A (ur_ws b0 cas m) H.size q → A q := by
    rintro q (⟨j, w, hj⟩ | hq)
    · exact hD.2 j _ hj
    · exact hA q (Nat.le_trans hS.1 hq)
  have fin : ∀ {ag : Array Value}, va_Run p l e R s mid args below meth c H locs cells slots (v.2.1.length - m.1.length) (ur_sl v.2.1 - ur_sl m.1) (F0 mid pc lsr ((As.reverse ++ .ref a :: r).map (ur_cv b0 ad))) (r.map (ur_cv b0 ad)) (ur_Qc D cas b0 (va_A (ur_ws b0 cas m) H.size) none v ag) (va_A (ur_ws b0 cas m) H.size) → W p l e R s mid args below meth c H locs cells slots Q (F0 mid pc lsr ((As.reverse ++ .ref a :: r).map (ur_cv b0 ad))) := fun {ag} hr => by
    refine va_callv (a := ag) hr hS (fun q _ h => hFc q h) hFc (fun u t H1 locs1 ht hvm hw hB hz1 hk1 hS1 => ?_)
    obtain ⟨b1, b2, b3⟩ := hB
    rw [ht] at b1
    exact hs lsr H1 locs1 _ _ hl h0 b1 (b2.weaken fun _ _ _ h => hFc _ h) hS1 b3 (by show _ = v.2.1.length; omega) (by show _ = ur_sl v.2.1; omega)
  rcases hlink with hlink | ⟨host, hlink⟩
  · exact fin (va_runI (e := e) (below := below) (meth := meth) (As := As.map (ur_cv b0 ad)) (rest := r.map (ur_cv b0 ad)) (H := H) (locs := locs) (cells := cells) (slots := slots) (g := F0 mid pc lsr ((As.reverse ++ .ref a :: r).map (ur_cv b0 ad))) ⟨hx1, hb, hml, hown, hts⟩ hmet ⟨callB_of (R := R) np hts hgood rfl rfl rfl (hts _ hini) (hts _ hlink) ⟨hmh.1, hmh.2, hOC.2.2.2.1⟩ hroom, hname, hts _ hinst⟩ hpre rfl (by simp; omega) (hl.1.trans h0) hstk (lv_room (by rw [ur_cs_map had]; exact hr)) hdg hfit) T hT X
  · obtain ⟨adK, adV, o1, o2, o3, o4, o5, o6, o7, o8⟩ := id hO
    exact fin (va_runIN (e := e) (below := below) (meth := meth) (As := As.map (ur_cv b0 ad)) (rest := r.map (ur_cv b0 ad)) (H := H) (locs := locs) (cells := cells) (slots := slots) (g := F0 mid pc lsr ((As.reverse ++ .ref a :: r).map (ur_cv b0 ad))) ⟨hx1, hb, hml, hown, hts⟩ hmet ⟨va_cnB (R := R) np hts hgood rfl rfl rfl (o6 _ hlink) (hts _ hini) ⟨hmh.1, hmh.2, hOC.2.2.2.1⟩ hroom, hname, hts _ hinst⟩ hpre rfl (by simp; omega) (hl.1.trans h0) hstk (lv_room (by rw [ur_cs_map had]; exact hr)) hdg hfit) T hT X
end URLG
/-! what was made holds what is held between calls -/
theorem mk_all : ∃ (a : ur_M) (b : ur_V) (c : ur_M) (d : ur_V) (m : ur_M), ur_nO mk_0 9 = some a ∧ ur_call ur_G 30 80 [.ref 0] a = some b ∧ b.2.1.length = 208 ∧ ur_nO b.2 10 = some c ∧ ur_call ur_G 30 138 [.ref 208] c = some d ∧ d.2.1.length = 251 ∧ ur_nA d.2 1 1 = some m ∧ mk_ck m = true := by
  have h := mk_ok
  unfold mk_b at h
  cases e : mk_run with
  | none => rw [e] at h; cases h
  | some m =>
    rw [e] at h
    unfold mk_run at e
    obtain ⟨a, h1, e⟩ := Option.bind_eq_some_iff.mp e
    obtain ⟨b, h2, e⟩ := Option.bind_eq_some_iff.mp e
    obtain ⟨h3, e⟩ := ur_cond_t e
    obtain ⟨c, h4, e⟩ := Option.bind_eq_some_iff.mp e
    obtain ⟨d, h5, e⟩ := Option.bind_eq_some_iff.mp e
    obtain ⟨h6, e⟩ := ur_cond_t e
    exact ⟨a, b, c, d, m, h1, ur_call_iff.mpr ⟨5000, h2⟩, Nat.eq_of_beq_eq_true h3, h4, ur_call_iff.mpr ⟨5000, h5⟩, Nat.eq_of_beq_eq_true h6, e, h⟩
theorem mk_inv {m : ur_M} (h : mk_ck m = true) : INV m.1 m.2.2.2 m.2.1 m.2.2.1 ∧ m.1[251]? = some (.inr (1, 1)) ∧ m.1.length = 252 ∧ ur_sl m.1 ≤ 10000 := by
  unfold mk_ck at h
  simp only [Bool.and_eq_true, decide_eq_true_eq] at h
  obtain ⟨h1, h2, h3, h4, h5⟩ := h
  have hX : oX m.1 m.2.2.2 3 14 25 29 := h1
  have z : ∀ a k, (a, k) ∈ mk_z → m.2.1 a k = 0 := fun a k hk => of_decide_eq_true (List.all_eq_true.mp h5 (a, k) hk)
  obtain ⟨s, f, g, R⟩ := m
  refine ⟨?_, h2, h3, h4⟩
  have z : ∀ a k, (a, k) ∈ mk_z → f a k = 0 := z
  have hX : oX s R 3 14 25 29 := hX
  refine ⟨3, 14, 25, 29, fun a k => f (3 + a) k, blk f 33, 0, 0, fun u _ _ _ => u, ⟨hX, ⟨hX.now, hX.land, fun i hi => rfl, ⟨fun i hi => rfl, rfl, rfl⟩, by decide, z 3 10 (by decide), by decide, z 3 12 (by decide), by decide⟩, ⟨0, by decide, z 11 2 (by decide), fun u t y n K => rfl⟩, ⟨hX.M, ?_, ?_, ⟨0, 0, z 218 0 (by decide), z 219 0 (by decide), by decide, Or.inl ⟨rfl, fun u t y m => rfl⟩⟩⟩⟩, ⟨fun r hr => absurd hr (Nat.not_lt_zero r), fun r hr => absurd hr (Nat.not_lt_zero r)⟩, ⟨0, by decide, z 1 1 (by decide), z 208 1 (by decide), fun k hk => absurd hk (Nat.not_lt_zero k)⟩, ⟨0, by decide, z 25 3 (by decide), z 233 0 (by decide), fun k hk => absurd hk (Nat.not_lt_zero k)⟩, ⟨0, by decide, z 45 3 (by decide), z 237 0 (by decide), fun k hk => absurd hk (Nat.not_lt_zero k)⟩, ⟨0, 0, by decide, by decide, z 0 9 (by decide), z 0 10 (by decide), z 208 50 (by decide), fun k hk => absurd hk (Nat.not_lt_zero k)⟩, fun i hi => ⟨false, ?_, ?_, fun y => by cases y⟩⟩
  · refine ⟨⟨by decide, by decide⟩, ⟨z 3 10 (by decide), z 3 12 (by decide), z 210 0 (by decide), z 210 2 (by decide), (z 210 1 (by decide)).trans (z 3 11 (by decide)).symm⟩, fun r hr => absurd hr (Nat.not_lt_zero r), fun i _ _ => ?_, fun r i hr => absurd hr (Nat.not_lt_zero r), fun r q hr => absurd hr (Nat.not_lt_zero r), fun r q hr => absurd hr (Nat.not_lt_zero r), fun p hp => absurd hp (Nat.not_lt_zero p)⟩
    show bt (f (3 + 0) 9) i = false
    rw [show f (3 + 0) 9 = 0 from z 3 9 (by decide)]
    exact b_0 i
  · refine ⟨⟨(z 241 0 (by decide)).trans (z 33 8 (by decide)).symm, (z 241 1 (by decide)).trans (z 33 7 (by decide)).symm, (z 241 2 (by decide)).trans (z 33 6 (by decide)).symm, (z 241 3 (by decide)).trans (z 33 5 (by decide)).symm⟩, fun p hp => absurd hp (Nat.not_lt_zero p), fun p _ hp => ?_, fun p hp => absurd hp (Nat.not_lt_zero p), fun i _ hi => ?_⟩
    · match p, hp with
      | 0, _ => exact z 241 24 (by decide)
      | 1, _ => exact z 241 25 (by decide)
      | 2, _ => exact z 241 26 (by decide)
      | 3, _ => exact z 241 27 (by decide)
      | 4, _ => exact z 241 28 (by decide)
    · have hi : bt (f (33 + 0) 6) i = true := hi
      rw [show f (33 + 0) 6 = 0 from z 33 6 (by decide), b_0 i] at hi
      cases hi
  · match i, hi with
    | 0, _ => exact z 152 3 (by decide)
    | 1, _ => exact z 166 3 (by decide)
    | 2, _ => exact z 180 3 (by decide)
    | 3, _ => exact z 194 3 (by decide)
  · match i, hi with
    | 0, _ => exact z 246 0 (by decide)
    | 1, _ => exact z 246 1 (by decide)
    | 2, _ => exact z 246 2 (by decide)
    | 3, _ => exact z 246 3 (by decide)

/-! THE LAW'S OWN WALK: calls -/
section URLC
variable {p : Program} {l : Launch} {e : Env} {R : Room} {s : State} {mid : MethodId} {args : Array Value} {below : List Frame} {meth : Method} {c : Code} {D : va_G} {cas : Nat → ClassId} {b0 : Nat} {ad : Nat → Value} {A : Nat → Prop} {nL Cn Sn : Nat} {Q : State → Prop}
variable {cc : ByteArray} {own : String} {pc n x idx d a : Nat} {ls : List (Option Value)} {st r As : List Value} {m m' : ur_M} {v : ur_V}
theorem lj_back {lsr : Array Slot} {H : Heap} {locs : List Loc} {cells slots y : Nat} {ty : FieldType} {ag : Array Value} (hl : ur_has lsr b0 ad ls) (h0 : ls.length = nL) (hD : va_D A (ur_ws b0 cas m)) (hS : va_S A s.heap H locs) (hA : ∀ q, s.heap.size ≤ q → A q) (hsh : v.2.1 = m.1) (hret : (ur_N y).2.2 = some ty) (hC : cells ≤ Cn) (hSn : slots ≤ Sn) {st0 : List Value}
    (hr : va_Run p l e R s mid args below meth c H locs cells slots (v.2.1.length - m.1.length) (ur_sl v.2.1 - ur_sl m.1) (F0 mid pc lsr st0) (r.map (ur_cv b0 ad)) (ur_Qc D cas b0 (va_A (ur_ws b0 cas m) H.size) (ur_N y).2.2 v ag) (va_A (ur_ws b0 cas m) H.size))
    (hs : lj p l e R s mid args below meth c D cas b0 ad A nL Cn Sn Q ((pc + 3, ls, .int v.1 :: r, v.2))) : W p l e R s mid args below meth c H locs cells slots Q (F0 mid pc lsr st0) := by
  have hFc : ∀ q, va_A (ur_ws b0 cas m) H.size q → A q := by
    rintro q (⟨j, w, hj⟩ | hq)
    · exact hD.2 j _ hj
    · exact hA q (Nat.le_trans hS.1 hq)
  rw [hret] at hr
  refine va_calli (a := ag) hr hS (fun q _ h => hFc q h) hFc (fun r u t H1 locs1 ht hvm hw hB hz1 hk1 hS1 => ?_)
  obtain ⟨b1, b2, b3⟩ := hB
  rw [ht] at b1
  rw [hw]
  exact hs lsr H1 locs1 _ _ hl h0 b1 (b2.weaken fun _ _ _ h => hFc _ h) hS1 (by rw [hsh]; omega) (by rw [hsh]; omega)
theorem lj_virt (hx : lc p s mid args c D cas b0 ad A nL cc own) (hL : ur_PL ur_GN own (idx, 0, x, 0)) (hx2 : (x % 2 == 0) = false) (hcls : (ur_G (x / 32)).2.2.2.2 < 11) (hcall : ur_call ur_G (d + 1) (x / 32) (.ref a :: As) m = some v) (hsh : v.2.1 = m.1) (hm : m.1.length ≤ 1000) (hAs : x / 2 % 16 = As.length + 1) (hR1 : d + 2 ≤ R.frames) (hR2 : 64 * (d + 2) ≤ R.locals) (hC : Cn ≤ R.cells) (hSn : Sn ≤ R.slots) (hr : ur_cs r ≤ 8) (hdg : decode cc pc = .ok (.invokevirtual idx, 3)) (hs : lj p l e R s mid args below meth c D cas b0 ad A nL Cn Sn Q ((pc + 3, ls, .int v.1 :: r, v.2))) : lj p l e R s mid args below meth c D cas b0 ad A nL Cn Sn Q ((pc, ls, As.reverse ++ .ref a :: r, m)) := by
  obtain ⟨np, hPC, hnp, hlink, h30, hni⟩ := hL
  have hnp : x / 2 % 16 = np + 1 := hnp
  obtain ⟨hOC, hPM⟩ := hPC
  have hy : x / 32 < 267 := by
    have := Nat.le_of_ble_eq_true hOC.1
    by_cases h : x / 32 < 267
    · exact h
    · exfalso
      have e : (ur_G (x / 32)).2.2.2.2 = 30 := by
        show (ur_GN (x / 32)).1.2.2.2.2 = 30
        unfold ur_GN
        rw [show Nat.blt (x / 32) 267 = false from Bool.eq_false_iff.mpr (fun z => h (Nat.le_of_ble_eq_true z))]
        rfl
      omega
  obtain ⟨hx1, hb, hml, hown, hts, hK, hO, hA, hb0, had⟩ := id hx
  have hM := ur_okN hy
  obtain ⟨hcode, hplain, hmh, hmax, hini, -⟩ := id hM
  obtain ⟨hinst, hsel⟩ := hPM.2.2.1 h30
  have hsel := hsel hni
  have hcl := hPM.2.2.2 h30
  obtain ⟨hx3, ty, hret⟩ : (x % 2 == 0) = false ∧ ∃ ty, (ur_N (x / 32)).2.2 = some ty := by
    rcases hOC.2.2.2.2 with ⟨z, -⟩ | z
    · rw [hx2] at z; cases z
    · exact z
  intro lsr H locs cells slots hl h0 hP hD hS q2 q3
  intro T hT X
  have hP : va_P D vwCl (ur_ws b0 cas m) H := hP
  have hD : va_D A (ur_ws b0 cas m) := hD
  obtain ⟨hmet, hrcv, hle⟩ := ur_callMet l (cas := cas) (D := D) (b0 := b0) (sz := H.size) had hy hcall (Nat.le_trans hb0 hS.1) hm (Or.inr (by rw [hsh]))
  have hpre := ur_pre (a := (Value.ref a :: As).map (ur_cv b0 ad)) hO hK hP hD hS hA
  have g30 : ((ur_G (x / 32)).2.2.2.2 == 30) = false := by simp; omega
  have g20 : ((ur_G (x / 32)).2.2.2.2 == 20) = false := by simp; omega
  have ho := by
    unfold ur_rcv at hrcv
    rw [g30, g20] at hrcv
    simp only [cond_false] at hrcv
    exact ur_isO_t hrcv
  have hb1 : ur_cv b0 ad (.ref a) = .ref (b0 + a) := ur_cv_in (ur_small ho hm)
  have hrecv : ∃ cellB : Cell, H[b0 + a]? = some cellB ∧ cellB.vm.isStatics = false ∧ s.vm.findClass (ur_N (x / 32)).1.cls = some cellB.cls := by
    rcases hcl with ⟨z1, -⟩ | ⟨z1, q, z2, z3⟩
    · have z1 : (ur_G (x / 32)).2.2.2.2 = 20 := z1
      omega
    · rw [show (ur_N (x / 32)).1.cls = q.1 from z3.symm]
      exact va_recv hK hP z2 (ur_ws_O ho)
  have hstk : (As.reverse ++ .ref a :: r).map (ur_cv b0 ad) = (As.map (ur_cv b0 ad)).reverse ++ .ref (b0 + a) :: r.map (ur_cv b0 ad) := by
    rw [List.map_append, List.map_cons, hb1, List.map_reverse]
  rw [List.map_cons, hb1] at hmet hpre
  have hG : GoodIn ur_T (wsV own idx (ur_N (x / 32)).1.cls (ur_N (x / 32)).1 (Cond.code (ur_N (x / 32)).1 (ur_N (x / 32)).2.1 (ur_G (x / 32)).2.2.1 (ur_N (x / 32)).2.2 :: ur_T)) := by
    intro w hw
    have : w ∈ ur_T := by
      unfold wsV at hw
      simp only [List.cons_append, List.nil_append, List.mem_cons] at hw
      rcases hw with rfl | rfl | rfl | rfl | rfl | hw
      · exact hlink
      · exact hinst
      · exact hsel
      · exact hini
      · exact hcode
      · exact hw
    exact ⟨this, ur_T_good this⟩
  have hrun := va_runV (e := e) (below := below) (meth := meth) (As := As.map (ur_cv b0 ad)) (rest := r.map (ur_cv b0 ad)) (H := H) (locs := locs) (cells := cells) (slots := slots) (g := F0 mid pc lsr ((As.reverse ++ .ref a :: r).map (ur_cv b0 ad))) ⟨hx1, hb, hml, hown, hts⟩ hmet (cwV (R := R) np hts hG rfl rfl rfl ⟨rfl, hmh.1, hmh.2, hOC.2.2.2.1⟩ ⟨by show d + 1 + 1 ≤ _; omega, by show 8 + (_ + 11) + 64 * (d + 1) ≤ _; omega⟩) ⟨hpre.1, hrecv, hpre.2⟩ rfl (by simp; omega) (hl.1.trans h0) hstk (lv_room (by rw [ur_cs_map had]; exact hr)) hdg ⟨by rw [hsh]; omega, by rw [hsh]; omega⟩
  exact lj_back hl h0 hD hS hA hsh hret q2 q3 hrun hs T hT X
theorem lj_stat (hx : lc p s mid args c D cas b0 ad A nL cc own) (hL : ur_PL ur_GN own (idx, 1, x, 0)) (hx2 : (x % 2 == 0) = false) (hy : x / 32 < 267) (hcall : ur_call ur_G (d + 1) (x / 32) As m = some v) (hsh : v.2.1 = m.1) (hm : m.1.length ≤ 1000) (hAs : x / 2 % 16 = As.length) (hR1 : d + 2 ≤ R.frames) (hR2 : 64 * (d + 2) ≤ R.locals) (hC : Cn ≤ R.cells) (hSn : Sn ≤ R.slots) (hr : ur_cs r ≤ 8) (hdg : decode cc pc = .ok (.invokestatic idx, 3)) (hs : lj p l e R s mid args below meth c D cas b0 ad A nL Cn Sn Q ((pc + 3, ls, .int v.1 :: r, v.2))) : lj p l e R s mid args below meth c D cas b0 ad A nL Cn Sn Q ((pc, ls, As.reverse ++ r, m)) := by
  obtain ⟨np, hPC, hnp, hlink, h30⟩ := hL
  have hnp : x / 2 % 16 = np := hnp
  obtain ⟨hOC, hPM⟩ := hPC
  obtain ⟨hx1, hb, hml, hown, hts, hK, hO, hA, hb0, had⟩ := id hx
  have hM := ur_okN hy
  obtain ⟨hcode, hplain, hmh, hmax, hini, -⟩ := id hM
  have hstat := hPM.2.1 h30
  obtain ⟨hx3, ty, hret⟩ : (x % 2 == 0) = false ∧ ∃ ty, (ur_N (x / 32)).2.2 = some ty := by
    rcases hOC.2.2.2.2 with ⟨z, -⟩ | z
    · rw [hx2] at z; cases z
    · exact z
  intro lsr H locs cells slots hl h0 hP hD hS q2 q3
  intro T hT X
  have hP : va_P D vwCl (ur_ws b0 cas m) H := hP
  have hD : va_D A (ur_ws b0 cas m) := hD
  obtain ⟨hmet, hrcv, hle⟩ := ur_callMet l (cas := cas) (D := D) (b0 := b0) (sz := H.size) had hy hcall (Nat.le_trans hb0 hS.1) hm (Or.inr (by rw [hsh]))
  have hpre := ur_pre (a := As.map (ur_cv b0 ad)) hO hK hP hD hS hA
  have hstk : (As.reverse ++ r).map (ur_cv b0 ad) = (As.map (ur_cv b0 ad)).reverse ++ r.map (ur_cv b0 ad) := by
    rw [List.map_append, List.map_reverse]
  have hroom : d + 1 + 1 ≤ R.frames ∧ 8 + ((ur_G (x / 32)).2.2.1 + 11) + 64 * (d + 1) ≤ R.locals := ⟨by omega, by omega⟩
  have hfit : cells + (v.2.1.length - m.1.length) ≤ R.cells ∧ slots + (ur_sl v.2.1 - ur_sl m.1) ≤ R.slots := ⟨by rw [hsh]; omega, by rw [hsh]; omega⟩
  rcases hlink with hlink | ⟨host, hlink⟩
  · have hrun := va_runS (e := e) (below := below) (meth := meth) (As := As.map (ur_cv b0 ad)) (rest := r.map (ur_cv b0 ad)) (H := H) (locs := locs) (cells := cells) (slots := slots) (g := F0 mid pc lsr ((As.reverse ++ r).map (ur_cv b0 ad))) ⟨hx1, hb, hml, hown, hts⟩ hmet ⟨callB_of (R := R) np hts (ur_goodM hM) rfl rfl rfl (hts _ hini) (hts _ hlink) ⟨hmh.1, hmh.2, hOC.2.2.2.1⟩ hroom, hts _ hstat⟩ hpre rfl (by simp; omega) (hl.1.trans h0) hstk (lv_room (by rw [ur_cs_map had]; exact hr)) hdg hfit
    exact lj_back hl h0 hD hS hA hsh hret q2 q3 hrun hs T hT X
  · obtain ⟨adK, adV, o1, o2, o3, o4, o5, o6, o7, o8⟩ := id hO
    have hrun := va_runSN (e := e) (below := below) (meth := meth) (As := As.map (ur_cv b0 ad)) (rest := r.map (ur_cv b0 ad)) (H := H) (locs := locs) (cells := cells) (slots := slots) (g := F0 mid pc lsr ((As.reverse ++ r).map (ur_cv b0 ad))) ⟨hx1, hb, hml, hown, hts⟩ hmet ⟨va_cnB (R := R) np hts (ur_goodM hM) rfl rfl rfl (o6 _ hlink) (hts _ hini) ⟨hmh.1, hmh.2, hOC.2.2.2.1⟩ hroom, hts _ hstat, trivial⟩ hpre rfl (by simp; omega) (hl.1.trans h0) hstk (lv_room (by rw [ur_cs_map had]; exact hr)) hdg hfit
    exact lj_back hl h0 hD hS hA hsh hret q2 q3 hrun hs T hT X
end URLC

/-! ONE STEP: a call -/
/-- what the tables say of a call: x names the method, its arguments and whether it answers -/
def ur_okC (G : Nat → ur_P) (N : Nat → ur_NI) (x np : Nat) : Prop := Nat.blt x 9000 = true ∧ True ∧ ur_okM G N (x / 32) ∧ (parseMethodDescriptor (N (x / 32)).1.desc).map (fun d => d.parameters.length) = some np ∧ (((x % 2 == 0) = true ∧ (N (x / 32)).2.2 = none) ∨ ((x % 2 == 0) = false ∧ ∃ ty, (N (x / 32)).2.2 = some ty))
section URI
variable {l : Launch} {G : Nat → ur_P} {N : Nat → ur_NI} {p : Program} {e : Env} {R : Room} {s : State} {mid : MethodId} {args : Array Value} {below : List Frame} {meth : Method} {c : Code} {D : va_G} {cas : Nat → ClassId} {b0 : Nat} {ad : Nat → Value} {A : Nat → Prop} {L0 S0 : Nat} {Q : State → Prop}
variable {pc n d k x idx np : Nat} {ls : List (Option Value)} {st : List Value} {m : ur_M} {res : ur_V}
theorem ur_cs_map (had : ur_ado ad) : ∀ r : List Value, ((r.map (ur_cv b0 ad)).map fun v => v.category).sum = ur_cs r
  | [] => rfl
  | v :: r => by simp only [List.map_cons, List.sum_cons, ur_cv_cat had, ur_cs, ur_cs_map had r]
/-- what a call step comes to -/
theorem ur_inv_some {self : ur_S → Option ur_V} (hC : ur_okC G N x np) (h : ur_do self (ur_exc G n d) (ur_inv x pc ls st m) = some res) : ∃ (d' : Nat) (v : ur_V), d = d' + 1 ∧ x / 2 % 16 ≤ st.length ∧ ur_cs (st.drop (x / 2 % 16)) ≤ 8 ∧ ur_rcv (G (x / 32)) (st.take (x / 2 % 16)).reverse m = true ∧ (ur_slots (st.take (x / 2 % 16)).reverse).length ≤ (G (x / 32)).2.2.1 ∧ ur_ex G n d' (x / 32) (ur_ent (G (x / 32)) (st.take (x / 2 % 16)).reverse m) = some v ∧ self (pc + 3, ls, bif x % 2 == 0 then st.drop (x / 2 % 16) else .int v.1 :: st.drop (x / 2 % 16), v.2) = some res := by
  unfold ur_inv at h
  rw [hC.1] at h
  simp only [cond_true] at h
  cases hg : (Nat.ble (x / 2 % 16) st.length && Nat.ble (ur_cs (st.drop (x / 2 % 16))) 8) with
  | false => rw [hg] at h; cases h
  | true =>
    rw [hg] at h
    simp only [Bool.and_eq_true] at hg
    obtain ⟨v, h1, h2⟩ := Option.bind_eq_some_iff.mp h
    cases d with
    | zero => cases h1
    | succ d' =>
      obtain ⟨g1, g2⟩ := ur_cond_t h1
      simp only [Bool.and_eq_true] at g1
      exact ⟨d', v, rfl, Nat.le_of_ble_eq_true hg.1, Nat.le_of_ble_eq_true hg.2, g1.1, Nat.le_of_ble_eq_true g1.2, g2, h2⟩
/-- the size of the heap, where cells may yet be made -/
theorem ur_size {H : Heap} {locs : List Loc} {cells slots : Nat} {T : State} {v : ur_M} (X : Stand p l e R s mid args below meth c T locs cells slots) (hT : T.heap = H) (hP : va_P D vwCl (ur_ws b0 cas m) H) (hS : va_S A s.heap H locs) (hb0 : b0 ≤ s.heap.size) (hc : cells + L0 = m.1.length) (hZ : s.heap.size = b0 + L0 ∨ res.2.1.length = L0) (h1 : m.1.length ≤ v.1.length) (h2 : v.1.length ≤ res.2.1.length) : H.size = b0 + m.1.length ∨ v.1.length = m.1.length := by
  rcases hZ with z | z
  · left
    have h3 : H.size ≤ s.heap.size + cells := by
      have := X.same.2.2.1
      have e1 : (T.setVm s.vm).heap = T.heap := rfl
      rw [e1, hT] at this
      exact this
    have h4 : s.heap.size ≤ H.size := hS.1
    rcases Nat.eq_zero_or_pos m.1.length with h5 | h5
    · omega
    · have h6 := (hP _ _ (ur_ws_at (b0 := b0) (cas := cas) (m := m) (a := m.1.length - 1) (by omega))).lt
      have h6 : b0 + (m.1.length - 1) < H.size := h6
      omega
  · right; omega
theorem ur_rev_map (f : Value → Value) (l : List Value) : (l.reverse.map f).reverse = l.map f := by simp
/-- behind a call -/
theorem ur_back {lsr : Array Slot} {H : Heap} {locs : List Loc} {cells slots : Nat} {v : ur_V} {a : Array Value} {sz : Nat} (hC : ur_okC G N x np) (hl : ur_has lsr b0 ad ls) (h0 : ls.length = (G k).2.2.1) (hD : va_D A (ur_ws b0 cas m)) (hS : va_S A s.heap H locs) (hA : ∀ q, s.heap.size ≤ q → A q) (hsz : H.size = sz) (q2 : cells + L0 = m.1.length) (q3 : slots + S0 = ur_sl m.1) (hle : ur_le m v.2) {rest : List Value} {st0 : List Value}
    (hr : va_Run p l e R s mid args below meth c H locs cells slots (v.2.1.length - m.1.length) (ur_sl v.2.1 - ur_sl m.1) (F0 mid pc lsr st0) (rest.map (ur_cv b0 ad)) (ur_Qc D cas b0 (va_A (ur_ws b0 cas m) sz) (N (x / 32)).2.2 v a) (va_A (ur_ws b0 cas m) sz))
    (hs : ur_Wg p l e R s mid args below meth c D cas b0 ad A (G k).2.2.1 L0 S0 Q (pc + 3, ls, bif x % 2 == 0 then rest else .int v.1 :: rest, v.2)) : W p l e R s mid args below meth c H locs cells slots Q (F0 mid pc lsr st0) := by
  have hFc : ∀ q, va_A (ur_ws b0 cas m) sz q → A q := by
    rintro q (⟨j, w, hj⟩ | hq)
    · exact hD.2 j _ hj
    · exact hA q (Nat.le_trans hS.1 (by rw [hsz]; exact hq))
  have hl1 := hle.1
  have hl2 := hle.2
  rcases hC.2.2.2.2 with ⟨hx2, hret⟩ | ⟨hx2, ty, hret⟩
  · rw [hx2] at hs
    rw [hret] at hr
    refine va_callv (a := a) hr hS (fun q _ h => hFc q h) hFc (fun u t H1 locs1 ht hvm hw hB hz1 hk1 hS1 => ?_)
    obtain ⟨b1, b2, b3⟩ := hB
    rw [ht] at b1
    exact hs lsr H1 locs1 _ _ hl h0 b1 (b2.weaken fun _ _ _ h => hFc _ h) hS1 b3 (by show _ = v.2.1.length; omega) (by show _ = ur_sl v.2.1; omega)
  · rw [hx2] at hs
    rw [hret] at hr
    refine va_calli (a := a) hr hS (fun q _ h => hFc q h) hFc (fun r u t H1 locs1 ht hvm hw hB hz1 hk1 hS1 => ?_)
    obtain ⟨b1, b2, b3⟩ := hB
    rw [ht] at b1
    rw [hw]
    exact hs lsr H1 locs1 _ _ hl h0 b1 (b2.weaken fun _ _ _ h => hFc _ h) hS1 b3 (by show _ = v.2.1.length; omega) (by show _ = ur_sl v.2.1; omega)
/-- what holds where a callee begins -/
theorem ur_pre {H : Heap} {locs : List Loc} {a : List Value} (hO : ur_Old ad A s) (hK : va_K D vwCl (ur_tys cas) s) (hP : va_P D vwCl (ur_ws b0 cas m) H) (hD : va_D A (ur_ws b0 cas m)) (hS : va_S A s.heap H locs) (hA : ∀ q, s.heap.size ≤ q → A q) : FrameBlind (va_Pc a (fun U => U.heap.size = H.size ∧ va_P D vwCl (ur_ws b0 cas m) U.heap ∧ va_K D vwCl (ur_tys cas) U ∧ ur_Old ad (va_A (ur_ws b0 cas m) H.size) U)) ∧ ∀ U : State, U.heap = H → s.WarmedH U.vm → va_Pc a (fun U => U.heap.size = H.size ∧ va_P D vwCl (ur_ws b0 cas m) U.heap ∧ va_K D vwCl (ur_tys cas) U ∧ ur_Old ad (va_A (ur_ws b0 cas m) H.size) U) a.toArray U := by
  refine ⟨fun a U g mk q => ?_, fun U hU hW => ⟨rfl, by rw [hU], by rw [hU]; exact hP, va_K.moved hW.alike hK, hO.go hW (fun z h1 h2 => by rw [hU]; exact hS.2.1 z h1 h2) ?_⟩⟩
  · obtain ⟨q0, q1, qP, qK, qO⟩ := q
    exact ⟨q0, q1, qP, va_K.moved (u := U) (U := U.calling g mk a) (Vm.Alike.refl U.vm) qK, qO.same rfl rfl⟩
  · rintro q (⟨j, w, hj⟩ | hq)
    · exact hD.2 j _ hj
    · exact hA q (Nat.le_trans hS.1 hq)
theorem ur_take_rev {z : Nat} {w : Value} {As : List Value} (h : (st.take z).reverse = w :: As) : st = As.reverse ++ w :: st.drop z := by
  have h1 : st.take z = (w :: As).reverse := by rw [← h, List.reverse_reverse]
  calc st = st.take z ++ st.drop z := (List.take_append_drop z st).symm
    _ = As.reverse ++ w :: st.drop z := by rw [h1]; simp
/-- invokevirtual -/
theorem ur_i_virt (had : ur_ado ad) (IH : ur_IH l G N D cas b0 ad n) (hcx : ur_Cx G N D cas b0 ad p R s mid args meth c A d k) (hZ : s.heap.size = b0 + L0 ∨ res.2.1.length = L0) (hR : res.2.1.length ≤ R.cells + L0 ∧ ur_sl res.2.1 ≤ R.slots + S0) (hC : ur_okC G N x np) (hna : x / 2 % 16 = np + 1) (hlink : Cond.methodLink (N k).1.cls idx (N (x / 32)).1 ∈ ur_T) (hinst : Cond.instanceMethod (N (x / 32)).1 ∈ ur_T) (hsel : Cond.selects (N (x / 32)).1.cls (N (x / 32)).1 (N (x / 32)).1 ∈ ur_T) (hcls : ((G (x / 32)).2.2.2.2 = 20 ∧ (N (x / 32)).1.cls = "java/lang/String") ∨ ((G (x / 32)).2.2.2.2 < 11 ∧ ∃ q, vwCl[(G (x / 32)).2.2.2.2]? = some q ∧ q.1 = (N (x / 32)).1.cls)) (hdg : decode (N k).2.1 pc = .ok (.invokevirtual idx, 3)) (hs : ∀ s', ur_ex G n d k s' = some res → ur_Wg p l e R s mid args below meth c D cas b0 ad A (G k).2.2.1 L0 S0 Q s') (h : ur_do (ur_ex G n d k) (ur_exc G n d) (ur_inv x pc ls st m) = some res) : ur_Wg p l e R s mid args below meth c D cas b0 ad A (G k).2.2.1 L0 S0 Q (pc, ls, st, m) := by
  obtain ⟨d', v, rfl, e1, e2, e3, e4, e5, e6⟩ := ur_inv_some hC h
  obtain ⟨hx, hb, hml, hown, hts, -, -, -, hK, hO, hA, hAb, hb0, hR1, hR2⟩ := hcx
  have g1 := ur_grow G n d' _ _ v e5
  have g2 := ur_grow G n (d' + 1) k _ res e6
  have hM := hC.2.2.1
  obtain ⟨hcode, hplain, hmh, hmax, hini, -⟩ := id hM
  generalize hasl : (st.take (x / 2 % 16)).reverse = as at e3 e4 e5
  obtain ⟨a, As, rfl⟩ : ∃ a As, as = .ref a :: As := by
    unfold ur_rcv at e3
    have h30 : ((G (x / 32)).2.2.2.2 == 30) = false := by rcases hcls with z | z <;> simp <;> omega
    rw [h30] at e3
    simp only [cond_false] at e3
    split at e3
    · exact ⟨_, _, rfl⟩
    · cases e3
  have hst := ur_take_rev hasl
  have hAs : As.length = np := by
    have := congrArg List.length hasl
    simp at this
    omega
  intro lsr H locs cells slots hl h0 hP hD hS q1 q2 q3
  intro T hT X
  have q2 : cells + L0 = m.1.length := q2
  have q3 : slots + S0 = ur_sl m.1 := q3
  have hP : va_P D vwCl (ur_ws b0 cas m) H := hP
  have hD : va_D A (ur_ws b0 cas m) := hD
  have q1 : m.1.length ≤ 1000 := q1
  have hle : ur_le m v.2 := g1
  have g2 : v.2.1.length ≤ res.2.1.length ∧ ur_sl v.2.1 ≤ ur_sl res.2.1 := g2
  have hz := ur_size X hT hP hS hb0 q2 hZ hle.1 g2.1
  have hmet := ur_met (sz := H.size) (cas := cas) had IH hM e5 e4 (Nat.le_trans hb0 hS.1) q1 hz
  have hpre := ur_pre (a := (Value.ref a :: As).map (ur_cv b0 ad)) hO hK hP hD hS hA
  have hrecv : ∃ b, ur_cv b0 ad (.ref a) = .ref b ∧ ∃ cellB : Cell, H[b]? = some cellB ∧ cellB.vm.isStatics = false ∧ s.vm.findClass (N (x / 32)).1.cls = some cellB.cls := by
    unfold ur_rcv at e3
    rcases hcls with ⟨z1, z2⟩ | ⟨z1, q, z2, z3⟩
    · simp only [z1] at e3
      obtain ⟨adK, adV, o1, o2, -⟩ := hO
      obtain ⟨j, hj, rfl⟩ := ur_old3 e3
      exact ⟨adK j, by rw [ur_cv_old, (o1 j hj).1], by rw [z2]; exact vk_recv o2 hj hS⟩
    · have h30 : ((G (x / 32)).2.2.2.2 == 30) = false := by simp; omega
      have h20 : ((G (x / 32)).2.2.2.2 == 20) = false := by simp; omega
      rw [h30, h20] at e3
      simp only [cond_false] at e3
      have ho := ur_isO_t e3
      refine ⟨b0 + a, ur_cv_in (ur_small ho q1), ?_⟩
      rw [← z3]
      exact va_recv hK hP z2 (ur_ws_O ho)
  obtain ⟨b, hb1, hrecv⟩ := hrecv
  have hg1 := hle.1
  have hg2 := hle.2
  have hstk : st.map (ur_cv b0 ad) = (As.map (ur_cv b0 ad)).reverse ++ .ref b :: (st.drop (x / 2 % 16)).map (ur_cv b0 ad) := by
    rw [← List.map_reverse, ← hb1, ← List.map_cons, ← List.map_append, ← hst]
  rw [List.map_cons, hb1] at hmet hpre
  have hG : GoodIn ur_T (wsV (N k).1.cls idx (N (x / 32)).1.cls (N (x / 32)).1 (Cond.code (N (x / 32)).1 (N (x / 32)).2.1 (G (x / 32)).2.2.1 (N (x / 32)).2.2 :: ur_T)) := by
    intro w hw
    have : w ∈ ur_T := by
      unfold wsV at hw
      simp only [List.cons_append, List.nil_append, List.mem_cons] at hw
      rcases hw with rfl | rfl | rfl | rfl | rfl | hw
      · exact hlink
      · exact hinst
      · exact hsel
      · exact hini
      · exact hcode
      · exact hw
    exact ⟨this, ur_T_good this⟩
  have hrun := va_runV (e := e) (below := below) (meth := meth) (As := As.map (ur_cv b0 ad)) (rest := (st.drop (x / 2 % 16)).map (ur_cv b0 ad)) (H := H) (locs := locs) (cells := cells) (slots := slots) (g := F0 mid pc lsr (st.map (ur_cv b0 ad))) ⟨hx, hb, hml, hown, hts⟩ hmet (cwV (R := R) np hts hG rfl rfl rfl ⟨rfl, hmh.1, hmh.2, hC.2.2.2.1⟩ ⟨by show d' + 1 + 1 ≤ _; omega, by show 8 + (_ + 11) + 64 * (d' + 1) ≤ _; omega⟩) ⟨hpre.1, hrecv, hpre.2⟩ rfl (by simp [hAs]) (hl.1.trans h0) hstk (lv_room (by rw [ur_cs_map had]; exact e2)) hdg ⟨by omega, by omega⟩
  exact ur_back hC hl h0 hD hS hA rfl q2 q3 hle hrun (hs _ e6) T hT X
/-- a callee's words are good ones -/
theorem ur_goodM {y : Nat} (hM : ur_okM G N y) : GoodIn ur_T (Cond.code (N y).1 (N y).2.1 (G y).2.2.1 (N y).2.2 :: ur_T) := by
  intro w hw
  have : w ∈ ur_T := by
    rcases List.mem_cons.mp hw with rfl | hw
    · exact hM.1
    · exact hw
  exact ⟨this, ur_T_good this⟩
/-- invokestatic -/
theorem ur_i_stat (had : ur_ado ad) (IH : ur_IH l G N D cas b0 ad n) (hcx : ur_Cx G N D cas b0 ad p R s mid args meth c A d k) (hZ : s.heap.size = b0 + L0 ∨ res.2.1.length = L0) (hR : res.2.1.length ≤ R.cells + L0 ∧ ur_sl res.2.1 ≤ R.slots + S0) (hC : ur_okC G N x np) (hna : x / 2 % 16 = np) (hlink : Cond.methodLink (N k).1.cls idx (N (x / 32)).1 ∈ ur_T ∨ ∃ host, Cond.methodLinkNest (N k).1.cls idx (N (x / 32)).1 host ∈ ur_nest) (hstat : Cond.static (N (x / 32)).1 ∈ ur_T) (hdg : decode (N k).2.1 pc = .ok (.invokestatic idx, 3)) (hs : ∀ s', ur_ex G n d k s' = some res → ur_Wg p l e R s mid args below meth c D cas b0 ad A (G k).2.2.1 L0 S0 Q s') (h : ur_do (ur_ex G n d k) (ur_exc G n d) (ur_inv x pc ls st m) = some res) : ur_Wg p l e R s mid args below meth c D cas b0 ad A (G k).2.2.1 L0 S0 Q (pc, ls, st, m) := by
  obtain ⟨d', v, rfl, e1, e2, e3, e4, e5, e6⟩ := ur_inv_some hC h
  obtain ⟨hx, hb, hml, hown, hts, -, -, -, hK, hO, hA, hAb, hb0, hR1, hR2⟩ := hcx
  have g1 := ur_grow G n d' _ _ v e5
  have g2 := ur_grow G n (d' + 1) k _ res e6
  have hM := hC.2.2.1
  obtain ⟨hcode, hplain, hmh, hmax, hini, -⟩ := id hM
  have hAs : (st.take (x / 2 % 16)).reverse.length = np := by simp; omega
  have hstk : st.map (ur_cv b0 ad) = (((st.take (x / 2 % 16)).reverse).map (ur_cv b0 ad)).reverse ++ (st.drop (x / 2 % 16)).map (ur_cv b0 ad) := by
    rw [ur_rev_map, ← List.map_append, List.take_append_drop]
  generalize (st.take (x / 2 % 16)).reverse = as at e3 e4 e5 hAs hstk
  intro lsr H locs cells slots hl h0 hP hD hS q1 q2 q3
  intro T hT X
  have q2 : cells + L0 = m.1.length := q2
  have q3 : slots + S0 = ur_sl m.1 := q3
  have hP : va_P D vwCl (ur_ws b0 cas m) H := hP
  have hD : va_D A (ur_ws b0 cas m) := hD
  have q1 : m.1.length ≤ 1000 := q1
  have hle : ur_le m v.2 := g1
  have g2 : v.2.1.length ≤ res.2.1.length ∧ ur_sl v.2.1 ≤ ur_sl res.2.1 := g2
  have hz := ur_size X hT hP hS hb0 q2 hZ hle.1 g2.1
  have hmet := ur_met (sz := H.size) (cas := cas) had IH hM e5 e4 (Nat.le_trans hb0 hS.1) q1 hz
  have hpre := ur_pre (a := as.map (ur_cv b0 ad)) hO hK hP hD hS hA
  have hg1 := hle.1
  have hg2 := hle.2
  have hroom : d' + 1 + 1 ≤ R.frames ∧ 8 + ((G (x / 32)).2.2.1 + 11) + 64 * (d' + 1) ≤ R.locals := ⟨by omega, by omega⟩
  have hfit : cells + (v.2.1.length - m.1.length) ≤ R.cells ∧ slots + (ur_sl v.2.1 - ur_sl m.1) ≤ R.slots := ⟨by omega, by omega⟩
  rcases hlink with hlink | ⟨host, hlink⟩
  · have hrun := va_runS (e := e) (below := below) (meth := meth) (As := as.map (ur_cv b0 ad)) (rest := (st.drop (x / 2 % 16)).map (ur_cv b0 ad)) (H := H) (locs := locs) (cells := cells) (slots := slots) (g := F0 mid pc lsr (st.map (ur_cv b0 ad))) ⟨hx, hb, hml, hown, hts⟩ hmet ⟨callB_of (R := R) np hts (ur_goodM hM) rfl rfl rfl (hts _ hini) (hts _ hlink) ⟨hmh.1, hmh.2, hC.2.2.2.1⟩ hroom, hts _ hstat⟩ hpre rfl (by simp [hAs]) (hl.1.trans h0) hstk (lv_room (by rw [ur_cs_map had]; exact e2)) hdg hfit
    exact ur_back hC hl h0 hD hS hA rfl q2 q3 hle hrun (hs _ e6) T hT X
  · obtain ⟨adK, adV, o1, o2, o3, o4, o5, o6, o7, o8⟩ := id hO
    have hrun := va_runSN (e := e) (below := below) (meth := meth) (As := as.map (ur_cv b0 ad)) (rest := (st.drop (x / 2 % 16)).map (ur_cv b0 ad)) (H := H) (locs := locs) (cells := cells) (slots := slots) (g := F0 mid pc lsr (st.map (ur_cv b0 ad))) ⟨hx, hb, hml, hown, hts⟩ hmet ⟨va_cnB (R := R) np hts (ur_goodM hM) rfl rfl rfl (o6 _ hlink) (hts _ hini) ⟨hmh.1, hmh.2, hC.2.2.2.1⟩ hroom, hts _ hstat, trivial⟩ hpre rfl (by simp [hAs]) (hl.1.trans h0) hstk (lv_room (by rw [ur_cs_map had]; exact e2)) hdg hfit
    exact ur_back hC hl h0 hD hS hA rfl q2 q3 hle hrun (hs _ e6) T hT X
/-- invokespecial of a constructor -/
theorem ur_i_spec (had : ur_ado ad) (IH : ur_IH l G N D cas b0 ad n) (hcx : ur_Cx G N D cas b0 ad p R s mid args meth c A d k) (hZ : s.heap.size = b0 + L0 ∨ res.2.1.length = L0) (hR : res.2.1.length ≤ R.cells + L0 ∧ ur_sl res.2.1 ≤ R.slots + S0) (hC : ur_okC G N x np) (hna : x / 2 % 16 = np + 1) (hlink : Cond.methodLink (N k).1.cls idx (N (x / 32)).1 ∈ ur_T ∨ ∃ host, Cond.methodLinkNest (N k).1.cls idx (N (x / 32)).1 host ∈ ur_nest) (hinst : Cond.instanceMethod (N (x / 32)).1 ∈ ur_T) (hname : (N (x / 32)).1.name = "<init>") (hret : (N (x / 32)).2.2 = none) (hcls : (G (x / 32)).2.2.2.2 < 11) (hdg : decode (N k).2.1 pc = .ok (.invokespecial idx, 3)) (hs : ∀ s', ur_ex G n d k s' = some res → ur_Wg p l e R s mid args below meth c D cas b0 ad A (G k).2.2.1 L0 S0 Q s') (h : ur_do (ur_ex G n d k) (ur_exc G n d) (ur_inv x pc ls st m) = some res) : ur_Wg p l e R s mid args below meth c D cas b0 ad A (G k).2.2.1 L0 S0 Q (pc, ls, st, m) := by
  obtain ⟨d', v, rfl, e1, e2, e3, e4, e5, e6⟩ := ur_inv_some hC h
  obtain ⟨hx, hb, hml, hown, hts, -, -, -, hK, hO, hA, hAb, hb0, hR1, hR2⟩ := hcx
  have g1 := ur_grow G n d' _ _ v e5
  have g2 := ur_grow G n (d' + 1) k _ res e6
  have hM := hC.2.2.1
  obtain ⟨hcode, hplain, hmh, hmax, hini, -⟩ := id hM
  generalize hasl : (st.take (x / 2 % 16)).reverse = as at e3 e4 e5
  have h30 : ((G (x / 32)).2.2.2.2 == 30) = false := by simp; omega
  have h20 : ((G (x / 32)).2.2.2.2 == 20) = false := by simp; omega
  obtain ⟨a, As, rfl⟩ : ∃ a As, as = .ref a :: As := by
    unfold ur_rcv at e3
    rw [h30] at e3
    simp only [cond_false] at e3
    split at e3
    · exact ⟨_, _, rfl⟩
    · cases e3
  have hst := ur_take_rev hasl
  have hAs : As.length = np := by
    have := congrArg List.length hasl
    simp at this
    omega
  intro lsr H locs cells slots hl h0 hP hD hS q1 q2 q3
  intro T hT X
  have q2 : cells + L0 = m.1.length := q2
  have q3 : slots + S0 = ur_sl m.1 := q3
  have hP : va_P D vwCl (ur_ws b0 cas m) H := hP
  have hD : va_D A (ur_ws b0 cas m) := hD
  have q1 : m.1.length ≤ 1000 := q1
  have hle : ur_le m v.2 := g1
  have g2 : v.2.1.length ≤ res.2.1.length ∧ ur_sl v.2.1 ≤ ur_sl res.2.1 := g2
  have hz := ur_size X hT hP hS hb0 q2 hZ hle.1 g2.1
  have hmet := ur_met (sz := H.size) (cas := cas) had IH hM e5 e4 (Nat.le_trans hb0 hS.1) q1 hz
  have hpre := ur_pre (a := (Value.ref a :: As).map (ur_cv b0 ad)) hO hK hP hD hS hA
  have hb1 : ur_cv b0 ad (.ref a) = .ref (b0 + a) := by
    unfold ur_rcv at e3
    rw [h30, h20] at e3
    simp only [cond_false] at e3
    exact ur_cv_in (ur_small (ur_isO_t e3) q1)
  have hg1 := hle.1
  have hg2 := hle.2
  have hstk : st.map (ur_cv b0 ad) = (As.map (ur_cv b0 ad)).reverse ++ .ref (b0 + a) :: (st.drop (x / 2 % 16)).map (ur_cv b0 ad) := by
    rw [← List.map_reverse, ← hb1, ← List.map_cons, ← List.map_append, ← hst]
  rw [List.map_cons, hb1] at hmet hpre
  have hroom : d' + 1 + 1 ≤ R.frames ∧ 8 + ((G (x / 32)).2.2.1 + 11) + 64 * (d' + 1) ≤ R.locals := ⟨by omega, by omega⟩
  have hfit : cells + (v.2.1.length - m.1.length) ≤ R.cells ∧ slots + (ur_sl v.2.1 - ur_sl m.1) ≤ R.slots := ⟨by omega, by omega⟩
  have hgood := ur_goodM hM
  rw [hret] at hgood
  have hmet2 := hmet
  rw [hret] at hmet2
  rcases hlink with hlink | ⟨host, hlink⟩
  · have hrun := va_runI (e := e) (below := below) (meth := meth) (As := As.map (ur_cv b0 ad)) (rest := (st.drop (x / 2 % 16)).map (ur_cv b0 ad)) (H := H) (locs := locs) (cells := cells) (slots := slots) (g := F0 mid pc lsr (st.map (ur_cv b0 ad))) ⟨hx, hb, hml, hown, hts⟩ hmet2 ⟨callB_of (R := R) np hts hgood rfl rfl rfl (hts _ hini) (hts _ hlink) ⟨hmh.1, hmh.2, hC.2.2.2.1⟩ hroom, hname, hts _ hinst⟩ hpre rfl (by simp [hAs]) (hl.1.trans h0) hstk (lv_room (by rw [ur_cs_map had]; exact e2)) hdg hfit
    rw [← hret] at hrun
    exact ur_back hC hl h0 hD hS hA rfl q2 q3 hle hrun (hs _ e6) T hT X
  · obtain ⟨adK, adV, o1, o2, o3, o4, o5, o6, o7, o8⟩ := id hO
    have hrun := va_runIN (e := e) (below := below) (meth := meth) (As := As.map (ur_cv b0 ad)) (rest := (st.drop (x / 2 % 16)).map (ur_cv b0 ad)) (H := H) (locs := locs) (cells := cells) (slots := slots) (g := F0 mid pc lsr (st.map (ur_cv b0 ad))) ⟨hx, hb, hml, hown, hts⟩ hmet2 ⟨va_cnB (R := R) np hts hgood rfl rfl rfl (o6 _ hlink) (hts _ hini) ⟨hmh.1, hmh.2, hC.2.2.2.1⟩ hroom, hname, hts _ hinst⟩ hpre rfl (by simp [hAs]) (hl.1.trans h0) hstk (lv_room (by rw [ur_cs_map had]; exact e2)) hdg hfit
    rw [← hret] at hrun
    exact ur_back hC hl h0 hD hS hA rfl q2 q3 hle hrun (hs _ e6) T hT X
end URI

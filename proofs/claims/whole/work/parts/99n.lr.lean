/-! RESTS: the contracts of the class's method where it throws, and of the law's own -/
theorem lw_entry {b0 : Nat} {ad : Nat → Value} (had : ur_ado ad) (as : List Value) {n : Nat} (hlen : (ur_slots as).length ≤ n) : ur_has (lg_sl (as.map (ur_cv b0 ad)) ++ List.replicate (n - (lg_sl (as.map (ur_cv b0 ad))).length) Slot.unset).toArray b0 ad (ur_pad n (ur_slots as)) := by
  have hl := lv_entry (as.map (ur_cv b0 ad)) (n := n) (by rw [ur_slots_len b0 ad had]; exact hlen)
  have hpl : (ur_pad n (ur_slots as)).length = n := by simp [ur_pad]; omega
  refine ⟨by rw [hpl]; exact hl.1, hl.2.1, fun q hq => hl.2.2 q ?_⟩
  obtain ⟨v, h1, h2⟩ := ur_asc_mem.mp hq
  have := ur_slots_in b0 ad had as 0 q.1 v (ur_pad_at h1)
  rw [Nat.zero_add, ← h2] at this
  exact this
def rx_Pc (D : va_G) (cas : Nat → ClassId) (b0 : Nat) (ad : Nat → Value) (m : ur_M) (sz : Nat) (as : List Value) : Array Value → State → Prop := va_Pc as (fun U => U.heap.size = sz ∧ va_P D vwCl (ur_ws b0 cas m) U.heap ∧ va_K D vwCl (ur_tys cas) U ∧ ur_Old ad (va_A (ur_ws b0 cas m) sz) U ∧ rx_E (va_A (ur_ws b0 cas m) sz) U)
section URLR
variable {p : Program} {l : Launch} {e : Env} {R : Room} {s : State} {mid : MethodId} {args : Array Value} {below : List Frame} {meth : Method} {c : Code} {D : va_G} {cas : Nat → ClassId} {b0 : Nat} {ad : Nat → Value} {A : Nat → Prop} {Q : State → Prop} {nL Cn Sn : Nat}
variable {pc z sz : Nat} {ls : List (Option Value)} {m : ur_M} {a b cc w : Int32} {own : String} {cd : ByteArray}
theorem rx_pre {H : Heap} {locs : List Loc} {as : List Value} (hx : lc p s mid args c D cas b0 ad A nL cd own) (hE : rx_E A s) (hP : va_P D vwCl (ur_ws b0 cas m) H) (hD : va_D A (ur_ws b0 cas m)) (hS : va_S A s.heap H locs) : FrameBlind (rx_Pc D cas b0 ad m H.size as) ∧ ∀ U : State, U.heap = H → s.WarmedH U.vm → rx_Pc D cas b0 ad m H.size as as.toArray U := by
  have hsub : ∀ q, va_A (ur_ws b0 cas m) H.size q → A q := by
    rintro q (⟨j, w, hj⟩ | hq)
    · exact hD.2 j _ hj
    · exact hx.2.2.2.2.2.2.2.1 q (Nat.le_trans hS.1 hq)
  refine ⟨fun a U g mk q => ?_, fun U hU hW => ⟨rfl, by rw [hU], by rw [hU]; exact hP, va_K.moved hW.alike hx.2.2.2.2.2.1, hx.2.2.2.2.2.2.1.go hW (fun z h1 h2 => by rw [hU]; exact hS.2.1 z h1 h2) hsub, hE.go hW (fun z h1 h2 => by rw [hU]; exact hS.2.1 z h1 h2) hsub⟩⟩
  obtain ⟨q0, q1, qP, qK, qO, qE⟩ := q
  exact ⟨q0, q1, qP, va_K.moved (u := U) (U := U.calling g mk a) (Vm.Alike.refl U.vm) qK, qO.same rfl rfl, qE.same rfl rfl⟩
theorem rx_met (l : Launch) (hl : l.stackTraces = false) (had : ur_ado ad) (hm : m.1.length ≤ 1000) (hb0 : b0 ≤ sz) {Qc : Array Value → State → Outcome → State → Prop} (h : rsR a b cc w = none) : vx_Met l yX9_rests (Cond.code yX9_rests cX9_rests 7 (some .int) :: ur_T) { frames := 10, cells := 1, slots := 6, locals := 1000 } (rx_Pc D cas b0 ad m sz (([.ref z, .int a, .int b, .int cc, .int w] : List Value).map (ur_cv b0 ad))) Qc (rx_X D cas b0 (va_A (ur_ws b0 cas m) sz) m) 1 6 (va_A (ur_ws b0 cas m) sz) := by
  refine vx_ofW (cc := cX9_rests) (maxL := 7) (ret := some .int) (by decide) rfl ?_
  intro p e s mid args below meth c s₁ B hml ht hv
  obtain ⟨rfl, hsz, hP, hK, hO, hE⟩ := hv
  have hts := atoms_spec (ws := Cond.code yX9_rests cX9_rests 7 (some .int) :: ur_T) B.pre
  have hown : s.vm.findClass RX9 = some mid.cls := findClass_of_methodNamed B.named
  have hl2 := lw_entry (b0 := b0) had [.ref z, .int a, .int b, .int cc, .int w] (n := 7) (by show 5 ≤ 7; decide)
  rw [lg_entry_eq]
  exact rx_walk (x0 := some (.ref z)) (x5 := none) (x6 := none) ⟨B.exec, B.bytes, hml, hown, fun w hw => hts w (List.mem_cons_of_mem _ hw), hK, hO, fun q hq => Or.inr (by rw [← hsz]; exact hq), by rw [hsz]; exact hb0, had⟩ hl hE ht B.notSynchronized hm ⟨by show 10 ≤ 10; decide, by show 1000 ≤ 1000; decide, by show 1 ≤ 1; decide, by show 6 ≤ 6; decide⟩ h _ s.heap [] 0 0 hl2 rfl hP (ur_D (fun b hb => va_A.in (ur_ws_at hb))) va_S.rf (Nat.le_refl 0) (Nat.le_refl 0)
theorem lj_ret {ty : FieldType} {v : Int32} {post : Int32 → Unit → Prop} {B : Unit → State → Prop} {XC : String → State → State → Prop} {mc ms : Nat} (hx : lc p s mid args c D cas b0 ad A nL cd own) (hr : meth.sig.returnType = some ty) (hlocks : meth.locks = false) (hn : narrow ty (.int v) = .int v) (hdg : decode cd pc = .ok (.ireturn, 1)) (hC : Cn ≤ mc) (hSn : Sn ≤ ms) (hpost : post v ()) (hB : ∀ t : State, va_P D vwCl (ur_ws b0 cas m) t.heap → B () t) : lj p l e R s mid args below meth c D cas b0 ad A nL Cn Sn (vx_MQ below (va_Qi post B A) XC args s mc ms A) (pc, ls, [.int v], m) := by
  intro lsr H locs cells slots hl h0 hP hD hS q2 q3
  exact W.widen (Nat.le_trans q2 hC) (Nat.le_trans q3 hSn) (vx_ret (W.zret hx.1 hx.2.1 hr hn (fun t ht hW => ⟨⟨v, (), rfl, hpost, hB t (by rw [ht]; exact hP)⟩, hS.F ht⟩) hS.2.2 hdg hlocks))
def lr_M (m : ur_M) (o : Option Int32) : ur_M := match o with
  | some v => (m.1, m.2.1, ur_u m.2.2.1 251 0 v.toInt64, m.2.2.2)
  | none => m
def lr_X (A : Nat → Prop) : String → State → State → Prop := vx_X (fun _ : Unit => False) (fun _ _ _ => True) A
def lr_ws : List Cond := Cond.codeWith yL_rests method_3_code 7 (some .int) [(0, 14, 17, 13)] :: ur_T
theorem lr_met (l : Launch) (hl : l.stackTraces = false) (had : ur_ado ad) (hm : m.1.length ≤ 1000) (hb0 : b0 ≤ sz) (hX : ur_isO m 0 9 = true) (ho : m.1[251]? = some (.inr (1, 1))) : vx_Met l yL_rests lr_ws { frames := 20, cells := 1, slots := 6, locals := 2000 } (rx_Pc D cas b0 ad m sz (([.ref 0, .int a, .int b, .int cc, .int w, .ref 251] : List Value).map (ur_cv b0 ad))) (va_Qi (fun r (_ : Unit) => r = rsT (rsR a b cc w)) (fun _ t => va_P D vwCl (ur_ws b0 cas (lr_M m (rsR a b cc w))) t.heap) (va_A (ur_ws b0 cas m) sz)) (lr_X (va_A (ur_ws b0 cas m) sz)) 1 6 (va_A (ur_ws b0 cas m) sz) := by
  refine vx_ofWH (cc := method_3_code) (maxL := 7) (ret := some .int) (hh := [(0, 14, 17, 13)]) (by decide) rfl ?_
  intro p e s mid args below meth c s₁ B hml hv
  obtain ⟨rfl, hsz, hP, hK, hO, hE⟩ := hv
  have hts0 := atoms_spec (ws := lr_ws) B.pre
  have hts : ∀ u ∈ ur_T, u.before (([.ref 0, .int a, .int b, .int cc, .int w, .ref 251] : List Value).map (ur_cv b0 ad)).toArray s = true := fun u hu => hts0 u (List.mem_cons_of_mem _ hu)
  have hown : s.vm.findClass RL = some mid.cls := findClass_of_methodNamed B.named
  have hl2 := lw_entry (b0 := b0) had [.ref 0, .int a, .int b, .int cc, .int w, .ref 251] (n := 7) (by show 6 ≤ 7; decide)
  have htab : c.exceptionTable.toList = [] ++ (⟨0, 14, 17, 13⟩ : ExceptionTableEntry) :: [] := vx_table (x := yL_rests) B (hts0 _ List.mem_cons_self)
  rw [lg_entry_eq]
  have hx : lc p s mid (([.ref 0, .int a, .int b, .int cc, .int w, .ref 251] : List Value).map (ur_cv b0 ad)).toArray c D cas b0 ad (va_A (ur_ws b0 cas m) sz) 7 method_3_code RL := ⟨B.exec, B.bytes, hml, hown, hts, hK, hO, fun q hq => Or.inr (by rw [← hsz]; exact hq), by rw [hsz]; exact hb0, had⟩
  have fr : (headSpec lr_ws { frames := 20, cells := 1, slots := 6, locals := 2000 }).room = { frames := 20, cells := 1, slots := 6, locals := 2000 } := rfl
  rw [fr]
  have go : ∀ {Q : State → Prop}, lj p l e { frames := 20, cells := 1, slots := 6, locals := 2000 } s mid (([.ref 0, .int a, .int b, .int cc, .int w, .ref 251] : List Value).map (ur_cv b0 ad)).toArray below meth c D cas b0 ad (va_A (ur_ws b0 cas m) sz) 7 0 0 Q (9, [some (.ref 0), some (.int a), some (.int b), some (.int cc), some (.int w), some (.ref 251), none], [.int w, .int cc, .int b, .int a, .ref 0, .int 0, .ref 251], m) → W p l e { frames := 20, cells := 1, slots := 6, locals := 2000 } s mid (([.ref 0, .int a, .int b, .int cc, .int w, .ref 251] : List Value).map (ur_cv b0 ad)).toArray below meth c s.heap [] 0 0 Q (F0 mid 0 (lg_sl (([.ref 0, .int a, .int b, .int cc, .int w, .ref 251] : List Value).map (ur_cv b0 ad)) ++ List.replicate (7 - (lg_sl (([.ref 0, .int a, .int b, .int cc, .int w, .ref 251] : List Value).map (ur_cv b0 ad))).length) Slot.unset).toArray []) := fun k => (lj_aload hx dL_rests_0 rfl (lj_iconst (v := 0) hx dL_rests_2 rfl (lj_aload_n hx dL_rests_3 rfl (lj_iload_n hx dL_rests_4 rfl (lj_iload_n hx dL_rests_5 rfl (lj_iload_n hx dL_rests_6 rfl (lj_iload hx dL_rests_7 rfl k))))))) _ s.heap [] 0 0 hl2 rfl hP (ur_D (fun b hb => va_A.in (ur_ws_at hb))) va_S.rf (Nat.le_refl 0) (Nat.le_refl 0)
  refine go ?_
  cases er : rsR a b cc w with
  | some v =>
    have hwL : ur_wL m 251 0 v.toInt64 = some (lr_M m (some v)) := by
      unfold ur_wL
      rw [show ur_isA m 251 1 = some 1 from by simp only [ur_isA, ho, beq_self_eq_true, cond_true]]
      rfl
    refine lj_virt (d := 3) (a := 0) (As := [.int a, .int b, .int cc, .int w]) (r := [.int 0, .ref 251]) (v := (v, m)) hx lk_0_7 rfl (by decide) (x_rests (d := 0) hX er) rfl hm rfl (by decide) (by decide) (by decide) (by decide) (by decide) dL_rests_9 ?_
    refine lj_i2l hx dL_rests_12 (lj_lastore hx hm hwL dL_rests_13 (lj_goto hx dL_rests_14 (x := 21) rfl (lj_iconst (v := 0) hx dL_rests_21 rfl ?_)))
    exact lj_ret hx B.returns B.notSynchronized rfl dL_rests_22 (by decide) (by decide) rfl (fun t h => h)
  | none =>
    intro lsr H locs cells slots hl3 h0 hP3 hD hS q2 q3
    have hP3 : va_P D vwCl (ur_ws b0 cas m) H := hP3
    have q2 : cells ≤ 0 := q2
    have q3 : slots ≤ 0 := q3
    have hD : va_D (va_A (ur_ws b0 cas m) sz) (ur_ws b0 cas m) := hD
    have hpre := rx_pre (as := ([.ref 0, .int a, .int b, .int cc, .int w] : List Value).map (ur_cv b0 ad)) hx hE hP3 hD hS
    have hoO := ur_isO_t hX
    have hb1 : ur_cv b0 ad (.ref 0) = .ref (b0 + 0) := ur_cv_in (ur_small hoO hm)
    have hrecv := va_recv (q := (RX9, TX9, 15)) hK hP3 rfl (ur_ws_O hoO)
    have hG : GoodIn ur_T (wsV RL 7 RX9 yX9_rests (Cond.code yX9_rests cX9_rests 7 (some .int) :: ur_T)) := by
      obtain ⟨np, hPC, hnp, hlink, h30, hni⟩ := lk_0_7
      have hM := ur_okN (y := 128) (by decide)
      intro w hw
      have : w ∈ ur_T := by
        unfold wsV at hw
        simp only [List.cons_append, List.nil_append, List.mem_cons] at hw
        rcases hw with rfl | rfl | rfl | rfl | rfl | hw
        · exact hlink
        · exact (hPC.2.2.2.1 h30).1
        · exact (hPC.2.2.2.1 h30).2 hni
        · exact hM.2.2.2.2.1
        · exact hM.1
        · exact hw
      exact ⟨this, ur_T_good this⟩
    have hrun := vx_runV (e := e) (below := below) (meth := meth) (As := [.int a, .int b, .int cc, .int w]) (rest := [.int 0, ur_cv b0 ad (.ref 251)]) (H := H) (locs := locs) (cells := cells) (slots := slots) (g := F0 mid 9 lsr [.int w, .int cc, .int b, .int a, .ref (b0 + 0), .int 0, ur_cv b0 ad (.ref 251)]) ⟨hx.1, hx.2.1, hx.2.2.1, hown, hts⟩ (rx_met (D := D) (cas := cas) (b0 := b0) (z := 0) (sz := H.size) (Qc := va_Qi (fun _ (_ : Unit) => False) (fun _ _ => True) (va_A (ur_ws b0 cas m) H.size)) l hl had hm (Nat.le_trans hx.2.2.2.2.2.2.2.2.1 hS.1) er) (cwV (R := { frames := 20, cells := 1, slots := 6, locals := 2000 }) 4 hts hG rfl rfl rfl ⟨rfl, by decide, by decide, by decide⟩ ⟨by decide, by decide⟩) ⟨hpre.1, hrecv, hpre.2⟩ rfl rfl (hl3.1.trans h0) rfl (lv_room (by
      rcases ur_cv_ref (b0 := b0) had 251 with h | ⟨q, h⟩ <;> rw [h] <;> exact (by decide : 2 ≤ 8))) dL_rests_9 ⟨by show cells + 1 ≤ 1; omega, by show slots + 6 ≤ 6; omega⟩
    have hsub : ∀ q, va_A (ur_ws b0 cas m) H.size q → va_A (ur_ws b0 cas m) sz q := by
      rintro q (⟨j, w, hj⟩ | hq)
      · exact hD.2 j _ hj
      · exact hx.2.2.2.2.2.2.2.1 q (Nat.le_trans hS.1 hq)
    refine vx_calli (A0 := va_A (ur_ws b0 cas m) sz) (H0 := s.heap) hrun hS (fun q _ h => hsub q h) hsub (fun q _ h => hsub q h) (fun E ce q9 u t H1 locs1 ht hvm hp hB hz hk hS1 hce hcv hcl => ?_) (fun r u t H1 locs1 ht hvm hp => absurd hp (fun y => y))
    obtain ⟨rfl, hB⟩ := hB
    rw [ht] at hB
    refine vx_catch (own := RL) (name := rx_N) hown [] ⟨0, 14, 17, 13⟩ [] htab (fun z hz => nomatch hz) rfl (by decide) (hts _ lw_w_ck) (va_Nw.use rfl (hE.1 (.castable rx_N rx_N) (by unfold rx_B rx_N; simp))) hce hcv hcl ?_
    refine lv_astore hx.1 hx.2.1 dL_rests_17 hl3 (show 6 < 7 by decide) rfl (fun ls' h' => ?_)
    refine lv_iconst (v := 1) hx.1 hx.2.1 dL_rests_19 rfl ?_
    exact W.widen (by omega) (by omega) (vx_ret (W.zret hx.1 hx.2.1 B.returns rfl (fun t ht hW => ⟨⟨1, (), rfl, rfl, by show va_P D vwCl (ur_ws b0 cas m) t.heap; rw [ht]; exact hB⟩, hS1.F ht⟩) hS1.2.2 dL_rests_20 B.notSynchronized))
end URLR

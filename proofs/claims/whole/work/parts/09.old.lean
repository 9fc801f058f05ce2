/-! ONE STEP: old cells, switches, new cells, copies, returns -/
def ur_byt : List (List Int32) := ur_txt.map (fun t => t.map nI)
def ur_lns : List Nat := ur_txt.map List.length
def ur_nest : List Cond := lw_tbl.filter (fun w => match w with
  | .methodLinkNest _ _ _ _ => true
  | _ => false)
/-- what the tables and the start say of old cells, of nest mates, of arrays of objects -/
def ur_Old (ad : Nat → Value) (A : Nat → Prop) (s : State) : Prop := ∃ adK adV : Nat → Nat, (∀ j, j < 3 → ad j = .ref (adK j) ∧ ad (10 + j) = .ref (adV j)) ∧ vk_S 3 ur_lns ur_byt adK adV A s s.heap ∧
  (vk_R "UnsaidRoom$Tape" 54 "room unsaid holds door person age in stays walk show speak burn minute guest wife child taxman not and or " (adK 0) s ∧ vk_R "UnsaidRoom$Tape" 40 "()<=+-*;" (adK 1) s ∧ vk_R "UnsaidRoom$Law" 46 "much times years nods " (adK 2) s) ∧
  va_Z "java/lang/String" "COMPACT_STRINGS" "Z" (.int 1) A s s.heap ∧ va_Z "jdk/internal/util/Preconditions" "SIOOBE_FORMATTER" "Ljava/util/function/BiFunction;" (ad 20) A s s.heap ∧ (∀ w ∈ ur_nest, va_Nw w s) ∧ va_AO "UnsaidRoom$Night" s ∧ va_AO "UnsaidRoom$Mark" s
theorem ur_Old.go {ad : Nat → Value} {A B : Nat → Prop} {s U : State} (h : ur_Old ad A s) (hW : s.WarmedH U.vm) (hq : ∀ a : Nat, a < s.heap.size → ¬ A a → U.heap[a]? = s.heap[a]?) (hAB : ∀ q, B q → A q) : ur_Old ad B U := by
  obtain ⟨adK, adV, h1, h2, ⟨r0, r1, r2⟩, h4, h5, h6, h7, h8⟩ := h
  have hv := hW.alike
  refine ⟨adK, adV, h1, ((h2.moved hv).kept hq).narrow hAB, ⟨r0.warm hW, r1.warm hW, r2.warm hW⟩, ((h4.moved hv).kept hq).narrow hAB, ((h5.moved hv).kept hq).narrow hAB, fun w hw => ?_, h7.moved hv, h8.moved hv⟩
  have h9 := h6 w hw
  have h10 := (List.mem_filter.mp hw).2
  cases w <;> simp at h10
  exact va_Nw.warmM hW h9
section URO
variable {p : Program} {l : Launch} {e : Env} {R : Room} {s : State} {mid : MethodId} {args : Array Value} {below : List Frame} {meth : Method} {c : Code} {D : va_G} {cas : Nat → ClassId} {b0 : Nat} {ad : Nat → Value} {A : Nat → Prop} {nL L0 S0 : Nat} {Q : State → Prop}
variable {cc : ByteArray} {own : String} {pc pc' n x a ci k t : Nat} {i v : Int32} {ls ls' : List (Option Value)} {st st' : List Value} {m m' : ur_M} {self : ur_S → Option ur_V} {call : Nat → List Value → ur_M → Option ur_V} {res : ur_V}
theorem ur_cv_old {j : Nat} : ur_cv b0 ad (.ref (ur_base + j)) = ad j := by
  simp only [ur_cv]
  rw [if_neg (show ¬ ur_base + j < ur_base by omega), show ur_base + j - ur_base = j by omega]
theorem ur_i_ldcS (hx : p.tables.exec = Jvm.exec) (hb : c.code = cc) (hown : s.vm.findClass own = some mid.cls) {tx : String} {q j : Nat} (hr : vk_R own k tx q s) (hj : ad j = .ref q) (hdg : decode cc pc = .ok (.ldc k, 2)) (hs : ur_Wg p l e R s mid args below meth c D cas b0 ad A nL L0 S0 Q ((pc + 2, ls, .ref (ur_base + j) :: st, m))) : ur_Wg p l e R s mid args below meth c D cas b0 ad A nL L0 S0 Q ((pc, ls, st, m)) :=
  ur_s_nx (fun lsr H locs cells slots _ _ _ k => va_ldcS hx hb hown hr hdg (by rw [List.map_cons, ur_cv_old, hj] at k; exact k)) hs
theorem ur_i_getsI (hx : p.tables.exec = Jvm.exec) (hb : c.code = cc) (hown : s.vm.findClass own = some mid.cls) (hO : ur_Old ad A s) (hlink : (Cond.fieldLink own k "java/lang/String" "COMPACT_STRINGS" "Z").before args s = true) (hdg : decode cc pc = .ok (.getstatic k, 3)) (hs : ur_Wg p l e R s mid args below meth c D cas b0 ad A nL L0 S0 Q ((pc + 3, ls, .int 1 :: st, m))) : ur_Wg p l e R s mid args below meth c D cas b0 ad A nL L0 S0 Q ((pc, ls, st, m)) := by
  obtain ⟨adK, adV, h1, h2, h3, h4, h5, h6⟩ := hO
  exact ur_s_nx (fun lsr H locs cells slots _ _ hS k => va_gets hx hb h4 hS hown hlink (fun _ h => h) hdg k) hs
theorem ur_i_getsR (hx : p.tables.exec = Jvm.exec) (hb : c.code = cc) (hown : s.vm.findClass own = some mid.cls) (hO : ur_Old ad A s) (hlink : (Cond.fieldLink own k "jdk/internal/util/Preconditions" "SIOOBE_FORMATTER" "Ljava/util/function/BiFunction;").before args s = true) (hdg : decode cc pc = .ok (.getstatic k, 3)) (hs : ur_Wg p l e R s mid args below meth c D cas b0 ad A nL L0 S0 Q ((pc + 3, ls, .ref (ur_base + 20) :: st, m))) : ur_Wg p l e R s mid args below meth c D cas b0 ad A nL L0 S0 Q ((pc, ls, st, m)) := by
  obtain ⟨adK, adV, h1, h2, h3, h4, h5, h6⟩ := hO
  exact ur_s_nx (fun lsr H locs cells slots _ _ hS k => va_gets hx hb h5 hS hown hlink (fun _ h => h) hdg (by rw [List.map_cons, ur_cv_old] at k; exact k)) hs
theorem ur_old3 {a : Nat} (h : decide (ur_base ≤ a ∧ a < ur_base + 3) = true) : ∃ j, j < 3 ∧ a = ur_base + j := by
  have := of_decide_eq_true h
  exact ⟨a - ur_base, by omega, by omega⟩
theorem ur_i_getCo (hx : p.tables.exec = Jvm.exec) (hb : c.code = cc) (hown : s.vm.findClass own = some mid.cls) (hO : ur_Old ad A s) (hlink : (Cond.fieldLink own k "java/lang/String" "coder" "B").before args s = true) (hdg : decode cc pc = .ok (.getfield k, 3)) (ha : decide (ur_base ≤ a ∧ a < ur_base + 3) = true) (hs : ur_Wg p l e R s mid args below meth c D cas b0 ad A nL L0 S0 Q ((pc + 3, ls, .int 0 :: st, m))) : ur_Wg p l e R s mid args below meth c D cas b0 ad A nL L0 S0 Q ((pc, ls, .ref a :: st, m)) := by
  obtain ⟨adK, adV, h1, h2, -⟩ := hO
  obtain ⟨j, hj, rfl⟩ := ur_old3 ha
  exact ur_s_nx (fun lsr H locs cells slots _ _ hS k => by
    rw [List.map_cons, ur_cv_old, (h1 j hj).1]
    exact vk_getf hx hb (h2.1 j hj).2.1 hS hown hlink (fun _ h => h) hdg k) hs
theorem ur_i_getVa (hx : p.tables.exec = Jvm.exec) (hb : c.code = cc) (hown : s.vm.findClass own = some mid.cls) (hO : ur_Old ad A s) (hlink : (Cond.fieldLink own k "java/lang/String" "value" "[B").before args s = true) (hdg : decode cc pc = .ok (.getfield k, 3)) (ha : decide (ur_base ≤ a ∧ a < ur_base + 3) = true) (hs : ur_Wg p l e R s mid args below meth c D cas b0 ad A nL L0 S0 Q ((pc + 3, ls, .ref (a + 10) :: st, m))) : ur_Wg p l e R s mid args below meth c D cas b0 ad A nL L0 S0 Q ((pc, ls, .ref a :: st, m)) := by
  obtain ⟨adK, adV, h1, h2, -⟩ := hO
  obtain ⟨j, hj, rfl⟩ := ur_old3 ha
  exact ur_s_nx (fun lsr H locs cells slots _ _ hS k => by
    rw [List.map_cons, show ur_base + j + 10 = ur_base + (10 + j) by omega, ur_cv_old, (h1 j hj).2] at k
    rw [List.map_cons, ur_cv_old, (h1 j hj).1]
    exact vk_getf hx hb (h2.1 j hj).2.2.1 hS hown hlink (fun _ h => h) hdg k) hs
theorem ur_txt_at {j : Nat} {t : List Nat} (h : ur_txt[j]? = some t) : j < 3 ∧ ur_lns.getD j 0 = t.length ∧ ur_byt.getD j [] = t.map nI := by
  have hj : j < 3 := (List.getElem?_eq_some_iff.mp h).1
  refine ⟨hj, ?_, ?_⟩
  · simp [ur_lns, List.getD_eq_getElem?_getD, h]
  · simp [ur_byt, List.getD_eq_getElem?_getD, h]
theorem ur_arith {a : Nat} (h : ur_base + 10 ≤ a) : a = ur_base + (10 + (a - (ur_base + 10))) := by omega
theorem ur_i_len (hx : p.tables.exec = Jvm.exec) (hb : c.code = cc) (hK : va_K D vwCl (ur_tys cas) s) (hO : ur_Old ad A s) (hdg : decode cc pc = .ok (.arraylength, 1)) {r : List Value} (hs : ∀ s', self s' = some res → ur_Wg p l e R s mid args below meth c D cas b0 ad A nL L0 S0 Q (s')) (h : ur_do self call (ur_rI (ur_len m a) (fun v => (pc + 1, ls, .int v :: r, m))) = some res) : ur_Wg p l e R s mid args below meth c D cas b0 ad A nL L0 S0 Q ((pc, ls, .ref a :: r, m)) := by
  obtain ⟨v, h1, h2⟩ := Option.bind_eq_some_iff.mp h
  simp only [ur_len] at h1
  split at h1
  next t n ho =>
    obtain ⟨hlow, h1⟩ := ur_cond_t h1
    cases h1
    have ht : t < 6 := Nat.le_of_ble_eq_true hlow
    intro lsr H locs cells slots hl h0 hP hD hS q1 q2 q3
    simp only [List.map_cons, ur_cv_in (ur_small ho q1)]
    have hn : (ur_ar b0 m a t n).1 = n := by unfold ur_ar; split <;> rfl
    have hty : ∃ ty, (ur_tys cas)[t]? = some (cas t, ty) := by
      rcases (show t = 0 ∨ t = 1 ∨ t = 2 ∨ t = 3 ∨ t = 4 ∨ t = 5 by omega) with rfl | rfl | rfl | rfl | rfl | rfl <;> exact ⟨_, rfl⟩
    obtain ⟨ty, hty⟩ := hty
    exact va_alen hx hb hK hP a t (ur_ws_A ho) hty (by rw [hn]) hdg (hs _ h2 lsr H locs cells slots hl h0 hP hD hS q1 q2 q3)
  next => cases h1
  next =>
    split at h1
    next t ht =>
      obtain ⟨g1, g2⟩ := ur_cond_t h1
      cases g2
      obtain ⟨hj, g3, g4⟩ := ur_txt_at ht
      have ha : a = ur_base + (10 + (a - (ur_base + 10))) := by have := of_decide_eq_true g1; omega
      generalize a - (ur_base + 10) = j at ha ht hj g3 g4
      subst ha
      obtain ⟨adK, adV, o1, o2, -⟩ := hO
      exact ur_s_nx (fun lsr H locs cells slots _ _ hS k => by
        rw [List.map_cons, ur_cv_old, (o1 j hj).2]
        exact va_tlen hx hb (o2.1 j hj).2.2.2 hS (by rw [g3]) hdg k) (hs _ h2)
    next => cases h1
theorem ur_i_baload (hx : p.tables.exec = Jvm.exec) (hb : c.code = cc) (hK : va_K D vwCl (ur_tys cas) s) (hO : ur_Old ad A s) (hdg : decode cc pc = .ok (.baload, 1)) (hs : ∀ s', self s' = some res → ur_Wg p l e R s mid args below meth c D cas b0 ad A nL L0 S0 Q (s')) (h : ur_do self call (ur_ald ur_aB pc ls st m) = some res) : ur_Wg p l e R s mid args below meth c D cas b0 ad A nL L0 S0 Q ((pc, ls, st, m)) := by
  unfold ur_ald at h
  split at h
  next i a r =>
    obtain ⟨v, h1, h2⟩ := Option.bind_eq_some_iff.mp h
    simp only [ur_aB] at h1
    cases hlo : decide (a < ur_base) with
    | true =>
      rw [hlo] at h1
      simp only [cond_true, ur_aI] at h1
      split at h1
      next n hn =>
        obtain ⟨g1, g2⟩ := ur_cond_t h1
        cases g2
        intro lsr H locs cells slots hl h0 hP hD hS q1 q2 q3
        have ho := ur_isA_t hn
        simp only [List.map_cons, ur_cv_in (ur_small ho q1)]
        exact va_zald hx hb hK hP a 2 (ur_ws_A ho) rfl (ur_inb_t g1) hdg (hs _ h2 lsr H locs cells slots hl h0 hP hD hS q1 q2 q3)
      next => cases h1
    | false =>
      rw [hlo] at h1
      simp only [cond_false] at h1
      split at h1
      next t ht =>
        obtain ⟨g1, g2⟩ := ur_cond_t h1
        cases g2
        simp only [Bool.and_eq_true, decide_eq_true_eq] at g1
        obtain ⟨hj, g3, g4⟩ := ur_txt_at ht
        have ha : a = ur_base + (10 + (a - (ur_base + 10))) := ur_arith g1.1
        generalize a - (ur_base + 10) = j at ha ht hj g3 g4
        subst ha
        obtain ⟨adK, adV, o1, o2, -⟩ := hO
        have hin := ur_inb_t g1.2
        have hlt : i.toNatClampNeg < t.length := Nat.not_le.mp fun q => hin (Or.inr q)
        exact ur_s_nx (fun lsr H locs cells slots _ _ hS k => by
          rw [List.map_cons, List.map_cons, ur_cv_old, (o1 j hj).2]
          refine va_tb hx hb (o2.1 j hj).2.2.2 hS (by rw [g3]; exact hin) ?_ hdg k
          show Value.int _ = Value.int _
          rw [g4]
          congr 1
          simp [List.getD_eq_getElem?_getD, List.getElem?_map, List.getElem?_eq_getElem hlt]) (hs _ h2)
      next => cases h1
  next => cases h
-- switches
def ur_sel (l : List (Int32 × Nat)) (d : Nat) (a : Int32) : Nat := match l with
  | [] => d
  | q :: r => bif decide (a = q.1) then q.2 else ur_sel r d a
theorem ur_sel_do {sw : List (Int32 × Nat)} {d : Nat} {a : Int32} {r : List Value} (h : ur_do self call (some (.inl (sw.map (fun q => (decide (a = q.1), (q.2, ls, r, m))), (d, ls, r, m)))) = some res) : self (ur_sel sw d a, ls, r, m) = some res := by
  induction sw with
  | nil => exact h
  | cons q w ih =>
    have h : (bif decide (a = q.1) then self (q.2, ls, r, m) else ur_do self call (some (.inl (w.map (fun q => (decide (a = q.1), (q.2, ls, r, m))), (d, ls, r, m))))) = some res := h
    show self (ur_sel (q :: w) d a, ls, r, m) = some res
    unfold ur_sel
    cases hq : decide (a = q.1) with
    | true => rw [hq] at h; exact h
    | false => rw [hq] at h; exact ih h
theorem ur_sel_off {pc : Nat} (dflt : Int) : ∀ (sw : List (Int32 × Nat)) (ps : List (Int × Int)) (d : Nat) (a : Int32), sw.map (fun q => (q.1.toInt, (q.2 : Int))) = ps.map (fun q => (q.1, (pc : Int) + q.2)) → (d : Int) = (pc : Int) + dflt → (pc : Int) + Op.lookupswitch.offset ps dflt a.toInt = (ur_sel sw d a : Int)
  | [], [], d, a, _, h => h.symm
  | [], _ :: _, _, _, h, _ => by cases h
  | _ :: _, [], _, _, h, _ => by cases h
  | q :: w, z :: ps, d, a, h, hd => by
    simp only [List.map_cons, List.cons.injEq, Prod.mk.injEq] at h
    obtain ⟨⟨e1, e2⟩, h⟩ := h
    obtain ⟨z1, z2⟩ := z
    rw [Op.lookupswitch.offset_cons]
    unfold ur_sel
    by_cases ha : a = q.1
    · rw [if_pos (by rw [ha]; exact e1.symm), decide_eq_true ha]
      exact e2.symm
    · rw [if_neg (fun q' => ha (Int32.toInt_inj.mp (q'.symm.trans e1.symm))), decide_eq_false ha]
      exact ur_sel_off dflt w ps d a h hd
theorem ur_i_lookup (hx : p.tables.exec = Jvm.exec) (hb : c.code = cc) {sw : List (Int32 × Nat)} {d : Nat} {dflt : Int} {ps : Array (Int × Int)} (hdg : decode cc pc = .ok (.lookupswitch dflt ps, n)) (hp : (ps.toList.zip (ps.toList.drop 1)).all (fun (a, next) => a.1 < next.1) = true) (h1 : sw.map (fun q => (q.1.toInt, (q.2 : Int))) = ps.toList.map (fun q => (q.1, (pc : Int) + q.2))) (h2 : (d : Int) = (pc : Int) + dflt) {w : Int32} {r : List Value} (hs : ur_Wg p l e R s mid args below meth c D cas b0 ad A nL L0 S0 Q ((ur_sel sw d w, ls, r, m))) : ur_Wg p l e R s mid args below meth c D cas b0 ad A nL L0 S0 Q ((pc, ls, .int w :: r, m)) :=
  ur_s_nx (fun lsr H locs cells slots _ _ _ k => lv_lookup hx hb hdg hp rfl (ur_sel_off dflt sw ps.toList d w h1 h2) k) hs
theorem ur_sel_tab {pc : Nat} (dflt : Int) : ∀ (sw : List (Int32 × Nat)) (offs : List Int) (lo : Int) (d : Nat) (a : Int32), sw.map (fun q => (q.1.toInt, (q.2 : Int))) = (List.range offs.length).map (fun (j : Nat) => (lo + (j : Int), (pc : Int) + offs.getD j 0)) → ((a.toInt < lo ∨ lo + offs.length ≤ a.toInt) → ur_sel sw d a = d) ∧ (lo ≤ a.toInt → a.toInt < lo + offs.length → (pc : Int) + offs.getD (a.toInt - lo).toNat 0 = (ur_sel sw d a : Int))
  | [], [], lo, d, a, _ => ⟨fun _ => rfl, fun h1 h2 => by simp at h2; omega⟩
  | [], _ :: _, _, _, _, h => by simp [List.range_succ_eq_map] at h
  | _ :: _, [], _, _, _, h => by simp at h
  | q :: w, o :: offs, lo, d, a, h => by
    simp only [List.length_cons, List.range_succ_eq_map, List.map_cons, List.map_map, List.cons.injEq, Prod.mk.injEq] at h
    obtain ⟨⟨e1, e2⟩, h⟩ := h
    have ih := ur_sel_tab (pc := pc) dflt w offs (lo + 1) d a (by
      rw [h]
      apply List.map_congr_left
      intro j _
      simp only [Function.comp_apply, Nat.succ_eq_add_one, List.getD_cons_succ, Prod.mk.injEq, and_true]
      omega)
    have e1' : q.1.toInt = lo := by simpa using e1
    have e2' : (q.2 : Int) = (pc : Int) + o := by simpa using e2
    unfold ur_sel
    by_cases ha : a = q.1
    · have hlo : a.toInt = lo := by rw [ha]; exact e1'
      rw [decide_eq_true ha]
      refine ⟨fun z => ?_, fun _ _ => ?_⟩
      · simp only [List.length_cons] at z; omega
      · rw [hlo]; simp [e2']
    · have hne : a.toInt ≠ lo := fun z => ha (Int32.toInt_inj.mp (by rw [z]; exact e1'.symm))
      rw [decide_eq_false ha]
      simp only [cond_false]
      refine ⟨fun z => ih.1 ?_, fun z1 z2 => ?_⟩
      · simp only [List.length_cons] at z; omega
      · simp only [List.length_cons] at z2
        have h3 := ih.2 (by omega) (by omega)
        rw [← h3, show (a.toInt - lo).toNat = (a.toInt - (lo + 1)).toNat + 1 by omega, List.getD_cons_succ]
theorem ur_i_table (hx : p.tables.exec = Jvm.exec) (hb : c.code = cc) {sw : List (Int32 × Nat)} {d : Nat} {dflt lo hi : Int} {offs : Array Int} (hdg : decode cc pc = .ok (.tableswitch dflt lo hi offs, n)) (h1 : sw.map (fun q => (q.1.toInt, (q.2 : Int))) = (List.range offs.toList.length).map (fun (j : Nat) => (lo + (j : Int), (pc : Int) + offs.toList.getD j 0))) (h2 : (pc : Int) + dflt = (d : Int)) (h3 : hi + 1 = lo + offs.toList.length) {w : Int32} {r : List Value} (hs : ur_Wg p l e R s mid args below meth c D cas b0 ad A nL L0 S0 Q ((ur_sel sw d w, ls, r, m))) : ur_Wg p l e R s mid args below meth c D cas b0 ad A nL L0 S0 Q ((pc, ls, .int w :: r, m)) := by
  have hsel := ur_sel_tab (pc := pc) dflt sw offs.toList lo d w h1
  by_cases hin : w.toInt < lo ∨ hi < w.toInt
  · rw [hsel.1 (by omega)] at hs
    exact ur_s_nx (fun lsr H locs cells slots _ _ _ k => lv_tableOut hx hb hdg hin h2 k) hs
  · have hlt : (w.toInt - lo).toNat < offs.toList.length := by omega
    refine ur_s_nx (fun lsr H locs cells slots _ _ _ k => lv_tableIn (off := offs.toList.getD (w.toInt - lo).toNat 0) hx hb hdg (fun q => hin (Or.inl q)) (fun q => hin (Or.inr q)) ?_ (hsel.2 (by omega) (by omega)) k) hs
    rw [← Array.getElem?_toList, List.getD_eq_getElem?_getD, List.getElem?_eq_getElem hlt]
    rfl
end URO

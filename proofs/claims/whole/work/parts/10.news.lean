/-! ONE STEP: new cells, copies, Object.<init>, returns -/
section URN
variable {p : Program} {l : Launch} {e : Env} {R : Room} {s : State} {mid : MethodId} {args : Array Value} {below : List Frame} {meth : Method} {c : Code} {D : va_G} {cas : Nat → ClassId} {b0 : Nat} {ad : Nat → Value} {A : Nat → Prop} {nL L0 S0 : Nat} {Q : State → Prop}
variable {cc : ByteArray} {own : String} {pc pc' n x a ci k t : Nat} {i v : Int32} {ls ls' : List (Option Value)} {st st' : List Value} {m m' : ur_M} {self : ur_S → Option ur_V} {call : Nat → List Value → ur_M → Option ur_V} {res : ur_V}
/-- where a new cell comes to lie -/
theorem ur_addr {H1 : Heap} {q cells : Nat} {w : va_E} {locs : List Loc} {slots : Nat} {T : State} (X : Stand p l e R s mid args below meth c T locs (cells + 1) slots) (hT : T.heap = H1) (hb : s.heap.size = b0 + L0) (hc : cells + L0 = m.1.length) (hAb : ∀ z, A z → b0 ≤ z) (hP : va_P D vwCl (ur_ws b0 cas m ++ [(q, w)]) H1) (hD : va_D A (ur_ws b0 cas m ++ [(q, w)])) : q = b0 + m.1.length := by
  have hl : (ur_ws b0 cas m).length = m.1.length := by simp [ur_ws]
  have hq : (ur_ws b0 cas m ++ [(q, w)])[m.1.length]? = some (q, w) := by
    rw [List.getElem?_append_right (by omega), hl]; simp
  have h1 : q < H1.size := (hP _ _ hq).lt
  have h2 : b0 ≤ q := hAb q (hD.2 _ _ hq)
  have h3 : H1.size ≤ s.heap.size + (cells + 1) := by
    have := X.same.2.2.1
    have e1 : (T.setVm s.vm).heap = T.heap := rfl
    rw [e1, hT] at this
    exact this
  rcases Nat.lt_or_ge (q - b0) m.1.length with h | h
  · exfalso
    have h4 : (ur_ws b0 cas m ++ [(q, w)])[q - b0]? = some (b0 + (q - b0), ur_ce b0 cas m (q - b0)) := by
      rw [List.getElem?_append_left (by omega), ur_ws_at h]
    have h5 := hD.1 _ _ _ _ h4 hq (by show b0 + (q - b0) = q; omega)
    omega
  · omega
theorem ur_kof {cA : ClassId} {ty : FieldType} (hK : va_K D vwCl (ur_tys cas) s) (hK1 : va_K D vwCl (ur_tys cas ++ [(cA, ty)]) s) (ht : (ur_tys cas)[t]? = some (cas t, ty)) : cA = cas t := by
  have h1 := (hK.2 t _ ht).2
  have h2 := (hK1.2 (ur_tys cas).length (cA, ty) (by simp)).2
  cases ty with
  | object C =>
    obtain ⟨_, _, _, _, _, e1⟩ := h1
    obtain ⟨_, _, _, _, _, e2⟩ := h2
    exact Option.some.inj (e2.symm.trans e1)
  | _ => exact Option.some.inj (h2.symm.trans h1)
theorem ur_new_ce {z : Nat ⊕ (Nat × Nat)} (hm : m' = (m.1 ++ [z], ur_row m.2.1 m.1.length (fun _ => 0), ur_row m.2.2.1 m.1.length (fun _ => 0), ur_row m.2.2.2 m.1.length (fun _ => none))) : ∀ b, b < m.1.length → ur_ce b0 cas m' b = ur_ce b0 cas m b := by
  intro b hb
  subst hm
  exact ur_ce_congr (List.getElem?_append_left hb) (ur_row_ne (by omega)) (ur_row_ne (by omega)) (ur_row_ne (by omega))
/-- a new array of numbers -/
theorem ur_i_newa (hx : p.tables.exec = Jvm.exec) (hb : c.code = cc) (hK : va_K D vwCl (ur_tys cas) s) (hA : ∀ q, s.heap.size ≤ q → A q) (hAb : ∀ z, A z → b0 ≤ z) (hZ : s.heap.size = b0 + L0 ∨ res.2.1.length = L0) {at' : ArrayType} (hat : ur_atc at' = some t) (harr : (Cond.arrayClass (newarray.typeOf at')).before args s = true) (hdg : decode cc pc = .ok (.newarray at', 2)) {r : List Value} (hgrow : ∀ s', self s' = some res → s'.2.2.2.1.length ≤ res.2.1.length ∧ ur_sl s'.2.2.2.1 ≤ ur_sl res.2.1) (hR : res.2.1.length ≤ R.cells + L0 ∧ ur_sl res.2.1 ≤ R.slots + S0) (hs : ∀ s', self s' = some res → ur_Wg p l e R s mid args below meth c D cas b0 ad A nL L0 S0 Q (s')) (h : ur_do self call (ur_rM (ur_nA m t i) (fun m' => (pc + 2, ls, .ref m.1.length :: r, m'))) = some res) : ur_Wg p l e R s mid args below meth c D cas b0 ad A nL L0 S0 Q ((pc, ls, .int i :: r, m)) := by
  obtain ⟨m', h1, h2⟩ := Option.bind_eq_some_iff.mp h
  obtain ⟨g1, g2⟩ := ur_cond_t h1
  simp only [Bool.and_eq_true, decide_eq_true_eq] at g1
  obtain ⟨g0, g3, g4⟩ := g1
  have g0 : m.1.length < 1000 := Nat.le_of_ble_eq_true g0
  have hm := (Option.some.inj g2).symm
  have hsh : m'.1 = m.1 ++ [.inr (t, i.toNatClampNeg)] := by rw [hm]
  have hgr := hgrow _ h2
  have hl1 : m'.1.length = m.1.length + 1 := by rw [hsh]; simp
  have hs1 : ur_sl m'.1 = ur_sl m.1 + i.toNatClampNeg := by rw [hsh, ur_sl_app]; simp [ur_sl]
  have hgr1 : m'.1.length ≤ res.2.1.length := hgr.1
  have hgr2 : ur_sl m'.1 ≤ ur_sl res.2.1 := hgr.2
  have hbound : i.toNatClampNeg ≤ 65536 := by
    have := Int32.le_iff_toInt_le.mp g4
    have e1 : (65536 : Int32).toInt = 65536 := by decide
    rw [e1] at this
    show i.toInt.toNat ≤ 65536
    omega
  intro lsr H locs cells slots hl h0 hP hD hS q1 q2 q3
  have q2 : cells + L0 = m.1.length := q2
  have hP : va_P D vwCl (ur_ws b0 cas m) H := hP
  have hD : va_D A (ur_ws b0 cas m) := hD
  have q3 : slots + S0 = ur_sl m.1 := q3
  have hbase : s.heap.size = b0 + L0 := by
    rcases hZ with z | z
    · exact z
    · omega
  have hty : (ur_tys cas)[t]? = some (cas t, newarray.typeOf at') ∧ (∀ cA : ClassId, vp_cell cA (ur_ar b0 m' m.1.length t i.toNatClampNeg) = arrV cA i.toNatClampNeg (fun _ => defaultValue (newarray.typeOf at'))) ∧ componentBytes (newarray.typeOf at') ≤ 8 := by
    subst hm
    cases at' <;> simp [ur_atc] at hat <;> subst hat <;> refine ⟨rfl, fun cA => ?_, by decide⟩ <;> simp only [ur_ar, ur_row_at] <;> rfl
  refine va_newa (a0 := ur_ar b0 m' m.1.length t i.toNatClampNeg) hx hb harr rfl hK hP hD hS hA hty.2.1 (Int32.not_lt.mpr g3) rfl (by have := hty.2.2; calc i.toNatClampNeg * componentBytes (newarray.typeOf at') ≤ 65536 * 8 := Nat.mul_le_mul hbound this
          _ ≤ 536870912 := by decide) (by omega) (by omega) hdg (fun q cA H1 hK1 hP1 hD1 hS1 => ?_)
  intro T hT X
  have hq := ur_addr X hT hbase q2 hAb hP1 hD1
  have hcA := ur_kof hK hK1 hty.1
  subst hq; subst hcA
  have hw : ur_ws b0 cas m ++ [(b0 + m.1.length, .inl (cas t, ur_ar b0 m' m.1.length t i.toNatClampNeg))] = ur_ws b0 cas m' := by
    rw [ur_ws_push hsh (ur_new_ce hm), ur_ce_A (show m'.1[m.1.length]? = some (.inr (t, i.toNatClampNeg)) by rw [hsh]; simp)]
  rw [hw] at hP1 hD1
  have hg := hs _ h2 lsr H1 locs (cells + 1) (slots + i.toNatClampNeg) hl h0 hP1 hD1 hS1 (by show m'.1.length ≤ 1000; omega) (by show _ = m'.1.length; omega) (by show _ = ur_sl m'.1; omega)
  rw [List.map_cons, ur_cv_in (show m.1.length < ur_base by unfold ur_base; omega)] at hg
  exact hg T hT X
/-- a new array of objects -/
theorem ur_i_newq (hx : p.tables.exec = Jvm.exec) (hb : c.code = cc) (hK : va_K D vwCl (ur_tys cas) s) (hA : ∀ q, s.heap.size ≤ q → A q) (hAb : ∀ z, A z → b0 ≤ z) (hZ : s.heap.size = b0 + L0 ∨ res.2.1.length = L0) (hown : s.vm.findClass own = some mid.cls) {C : String} {idx : Nat} (hclink : (Cond.classLink own idx C).before args s = true) (hover : va_AO C s) (ht : t = 4 ∨ t = 5) (hty : (ur_tys cas)[t]? = some (cas t, .object C)) (hdg : decode cc pc = .ok (.anewarray idx, 3)) {r : List Value} (hgrow : ∀ s', self s' = some res → s'.2.2.2.1.length ≤ res.2.1.length ∧ ur_sl s'.2.2.2.1 ≤ ur_sl res.2.1) (hR : res.2.1.length ≤ R.cells + L0 ∧ ur_sl res.2.1 ≤ R.slots + S0) (hs : ∀ s', self s' = some res → ur_Wg p l e R s mid args below meth c D cas b0 ad A nL L0 S0 Q (s')) (h : ur_do self call (ur_rM (ur_nA m t i) (fun m' => (pc + 3, ls, .ref m.1.length :: r, m'))) = some res) : ur_Wg p l e R s mid args below meth c D cas b0 ad A nL L0 S0 Q ((pc, ls, .int i :: r, m)) := by
  obtain ⟨m', h1, h2⟩ := Option.bind_eq_some_iff.mp h
  obtain ⟨g1, g2⟩ := ur_cond_t h1
  simp only [Bool.and_eq_true, decide_eq_true_eq] at g1
  obtain ⟨g0, g3, g4⟩ := g1
  have g0 : m.1.length < 1000 := Nat.le_of_ble_eq_true g0
  have hm := (Option.some.inj g2).symm
  have hsh : m'.1 = m.1 ++ [.inr (t, i.toNatClampNeg)] := by rw [hm]
  have hgr := hgrow _ h2
  have hl1 : m'.1.length = m.1.length + 1 := by rw [hsh]; simp
  have hs1 : ur_sl m'.1 = ur_sl m.1 + i.toNatClampNeg := by rw [hsh, ur_sl_app]; simp [ur_sl]
  have hgr1 : m'.1.length ≤ res.2.1.length := hgr.1
  have hgr2 : ur_sl m'.1 ≤ ur_sl res.2.1 := hgr.2
  have hbound : i.toNatClampNeg ≤ 65536 := by
    have := Int32.le_iff_toInt_le.mp g4
    have e1 : (65536 : Int32).toInt = 65536 := by decide
    rw [e1] at this
    show i.toInt.toNat ≤ 65536
    omega
  intro lsr H locs cells slots hl h0 hP hD hS q1 q2 q3
  have q2 : cells + L0 = m.1.length := q2
  have hP : va_P D vwCl (ur_ws b0 cas m) H := hP
  have hD : va_D A (ur_ws b0 cas m) := hD
  have q3 : slots + S0 = ur_sl m.1 := q3
  have hbase : s.heap.size = b0 + L0 := by
    rcases hZ with z | z
    · exact z
    · omega
  have har : ur_ar b0 m' m.1.length t i.toNatClampNeg = (i.toNatClampNeg, .inr (.inr (.inr (.inr (fun _ => none))))) := by
    subst hm
    rcases ht with rfl | rfl <;> simp only [ur_ar, ur_row_at] <;> rfl
  refine va_newq hx hb hown hclink hover hK hP hD hS hA (Int32.not_lt.mpr g3) rfl (by omega) (by omega) (by omega) hdg (fun q cA H1 hK1 hP1 hD1 hS1 => ?_)
  intro T hT X
  have hq := ur_addr X hT hbase q2 hAb hP1 hD1
  have hcA := ur_kof hK hK1 hty
  subst hq; subst hcA
  have hw : ur_ws b0 cas m ++ [(b0 + m.1.length, .inl (cas t, i.toNatClampNeg, .inr (.inr (.inr (.inr (fun _ => none))))))] = ur_ws b0 cas m' := by
    rw [ur_ws_push hsh (ur_new_ce hm), ur_ce_A (show m'.1[m.1.length]? = some (.inr (t, i.toNatClampNeg)) by rw [hsh]; simp), har]
  rw [hw] at hP1 hD1
  have hg := hs _ h2 lsr H1 locs (cells + 1) (slots + i.toNatClampNeg) hl h0 hP1 hD1 hS1 (by show m'.1.length ≤ 1000; omega) (by show _ = m'.1.length; omega) (by show _ = ur_sl m'.1; omega)
  rw [List.map_cons, ur_cv_in (show m.1.length < ur_base by unfold ur_base; omega)] at hg
  exact hg T hT X
/-- a new object -/
theorem ur_i_new (hx : p.tables.exec = Jvm.exec) (hb : c.code = cc) (hts : ∀ w ∈ ur_T, w.before args s = true) (hK : va_K D vwCl (ur_tys cas) s) (hA : ∀ q, s.heap.size ≤ q → A q) (hAb : ∀ z, A z → b0 ≤ z) (hZ : s.heap.size = b0 + L0 ∨ res.2.1.length = L0) (hown : s.vm.findClass own = some mid.cls) {C : String} {T : u_T} {idx N : Nat} (hc : vwCl[ci]? = some (C, T, N)) (hin : ∀ w ∈ u_ws C T N, w ∈ ur_T) (hN : N = ur_nf ci) (ty : Nat → FieldType) (hty : ∀ k, k < N → parseFieldDescriptor (T k).2.2.1 = some (ty k)) (hkd : ∀ k, k < N → defaultValue (ty k) = (match ur_kd ci k with | 2 => .long 0 | 3 => .null | _ => .int 0)) (hclink : (Cond.classLink own idx C).before args s = true) (hinst : (Cond.instantiable C N).before args s = true) (hini : (Cond.initialized C).before args s = true) (hdg : decode cc pc = .ok (.new idx, 3)) (hgrow : ∀ s', self s' = some res → s'.2.2.2.1.length ≤ res.2.1.length ∧ ur_sl s'.2.2.2.1 ≤ ur_sl res.2.1) (hR : res.2.1.length ≤ R.cells + L0 ∧ ur_sl res.2.1 ≤ R.slots + S0) (hs : ∀ s', self s' = some res → ur_Wg p l e R s mid args below meth c D cas b0 ad A nL L0 S0 Q (s')) (h : ur_do self call (ur_rM (ur_nO m ci) (fun m' => (pc + 3, ls, .ref m.1.length :: st, m'))) = some res) : ur_Wg p l e R s mid args below meth c D cas b0 ad A nL L0 S0 Q ((pc, ls, st, m)) := by
  obtain ⟨m', h1, h2⟩ := Option.bind_eq_some_iff.mp h
  obtain ⟨g0, g2⟩ := ur_cond_t h1
  have g0 : m.1.length < 1000 := Nat.le_of_ble_eq_true g0
  have hm := (Option.some.inj g2).symm
  have hsh : m'.1 = m.1 ++ [.inl ci] := by rw [hm]
  have hgr := hgrow _ h2
  have hl1 : m'.1.length = m.1.length + 1 := by rw [hsh]; simp
  have hs1 : ur_sl m'.1 = ur_sl m.1 + N := by rw [hsh, ur_sl_app]; simp [ur_sl, hN]
  have hgr1 : m'.1.length ≤ res.2.1.length := hgr.1
  have hgr2 : ur_sl m'.1 ≤ ur_sl res.2.1 := hgr.2
  intro lsr H locs cells slots hl h0 hP hD hS q1 q2 q3
  have q2 : cells + L0 = m.1.length := q2
  have hP : va_P D vwCl (ur_ws b0 cas m) H := hP
  have hD : va_D A (ur_ws b0 cas m) := hD
  have q3 : slots + S0 = ur_sl m.1 := q3
  have hbase : s.heap.size = b0 + L0 := by
    rcases hZ with z | z
    · exact z
    · omega
  have hfs : ∀ j, j < N → defaultValue (ty j) = vp_V (ur_fs b0 m' m.1.length ci) j := by
    intro j hj
    rw [hkd j hj]
    unfold vp_V
    rw [List.getD_eq_getElem?_getD, ur_fs_at (by rw [← hN]; exact hj)]
    subst hm
    simp only [Option.getD_some, ur_fv, ur_row_at]
    generalize ur_kd ci j = kd
    match kd with
    | 0 => rfl
    | 1 => rfl
    | 2 => rfl
    | 3 => rfl
    | _ + 4 => rfl
  refine va_new (fs := ur_fs b0 m' m.1.length ci) hx hb hts hin ty hty hown hclink hinst hini hK hP hD hS hA hc hfs (by omega) (by omega) hdg (fun q H1 hP1 hD1 hS1 => ?_)
  intro T hT X
  have hq := ur_addr X hT hbase q2 hAb hP1 hD1
  subst hq
  have hw : ur_ws b0 cas m ++ [(b0 + m.1.length, .inr (ci, ur_fs b0 m' m.1.length ci))] = ur_ws b0 cas m' := by
    rw [ur_ws_push hsh (ur_new_ce hm), ur_ce_O (show m'.1[m.1.length]? = some (.inl ci) by rw [hsh]; simp)]
  rw [hw] at hP1 hD1
  have hg := hs _ h2 lsr H1 locs (cells + 1) (slots + N) hl h0 hP1 hD1 hS1 (by show m'.1.length ≤ 1000; omega) (by show _ = m'.1.length; omega) (by show _ = ur_sl m'.1; omega)
  rw [List.map_cons, ur_cv_in (show m.1.length < ur_base by unfold ur_base; omega)] at hg
  exact hg T hT X
/-- System.arraycopy -/
theorem ur_i_copy (hx : p.tables.exec = Jvm.exec) (hb : c.code = cc) (hml : c.maxLocals = nL) (hK : va_K D vwCl (ur_tys cas) s) (hown : s.vm.findClass own = some mid.cls) {idx : Nat} (hlink : (Cond.methodLink own idx arraycopyName).before args s = true) (hnat : (Cond.native arraycopyName).before args s = true) (hstat : (Cond.static arraycopyName).before args s = true) (hini : (Cond.initialized "java/lang/System").before args s = true) (hR : 1 ≤ R.frames ∧ 64 ≤ R.locals) {b : Nat} {j w : Int32} {r : List Value} (hr : ((r.map (ur_cv b0 ad)).map fun v => v.category).sum ≤ 8) (hdg : decode cc pc = .ok (.invokestatic idx, 3)) (hs : ∀ s', self s' = some res → ur_Wg p l e R s mid args below meth c D cas b0 ad A nL L0 S0 Q (s')) (h : ur_do self call (ur_rM (ur_cpy m a i b j w) (fun m => (pc + 3, ls, r, m))) = some res) : ur_Wg p l e R s mid args below meth c D cas b0 ad A nL L0 S0 Q ((pc, ls, .int w :: .int j :: .ref b :: .int i :: .ref a :: r, m)) := by
  obtain ⟨m', h1, h2⟩ := Option.bind_eq_some_iff.mp h
  simp only [ur_cpy] at h1
  split at h1
  next p q hp hq =>
    obtain ⟨g1, g2⟩ := ur_cond_t h1
    simp only [Bool.and_eq_true, decide_eq_true_eq] at g1
    obtain ⟨⟨z1, z2⟩, z3, z4, z5⟩ := g1
    have ha := ur_isA_t hp
    have hb' := ur_isA_t hq
    intro lsr H locs cells slots hl h0 hP hD hS q1 q2 q3
    simp only [List.map_cons, ur_cv_in (ur_small ha q1), ur_cv_in (ur_small hb' q1)]
    have hnw : nativeFrameWords "java/lang/System" "arraycopy" 5 = 7 := by decide
    refine va_copyi hx hb (by rw [hml, hl.1]; exact h0.symm) hown hlink hnat hstat hini hK hP hD hS a b 0 0 (ur_ws_A ha) (ur_ws_A hb') rfl rfl rfl (Int32.not_lt.mpr z1) (Int32.not_lt.mpr z2) (Int32.not_lt.mpr z3) z4 z5 (fun _ _ => rfl) hR.1 (by rw [hnw]; exact Nat.le_trans (Nat.add_le_add_right hr 18) (Nat.le_trans (by decide) hR.2)) hdg (fun H1 locs1 p1 p2 p3 => ?_)
    have hsh : m'.1 = m.1 := by rw [← Option.some.inj g2]
    rw [ur_ws_arr (m' := m') hb' hsh (fun z hz => by rw [← Option.some.inj g2]; exact ⟨ur_row_ne hz, rfl, rfl⟩) (by rw [← Option.some.inj g2]; simp only [ur_ar, ur_row_at])] at p1 p2
    exact hs _ h2 lsr H1 locs1 cells slots hl h0 p1 p2 p3 (by show m'.1.length ≤ 1000; rw [hsh]; exact q1) (by show _ = m'.1.length; rw [hsh]; exact q2) (by show _ = ur_sl m'.1; rw [hsh]; exact q3)
  next => cases h1
/-- Object.<init> -/
theorem ur_i_oin (hx : p.tables.exec = Jvm.exec) (hb : c.code = cc) (hml : c.maxLocals = nL) (hown : s.vm.findClass own = some mid.cls) {idx : Nat} (hlink : (Cond.methodLink own idx Lib.objectInit).before args s = true) (hinst : (Cond.instanceMethod Lib.objectInit).before args s = true) (hcode : (Cond.code Lib.objectInit ⟨#[0xb1]⟩ 1 none).before args s = true) (hR : 1 ≤ R.frames ∧ 64 ≤ R.locals) {r : List Value} (hr : ((r.map (ur_cv b0 ad)).map fun v => v.category).sum ≤ 8) (ha : a < ur_base) (hdg : decode cc pc = .ok (.invokespecial idx, 3)) (hs : ur_Wg p l e R s mid args below meth c D cas b0 ad A nL L0 S0 Q ((pc + 3, ls, r, m))) : ur_Wg p l e R s mid args below meth c D cas b0 ad A nL L0 S0 Q ((pc, ls, .ref a :: r, m)) := by
  intro lsr H locs cells slots hl h0 hP hD hS q1 q2 q3
  simp only [List.map_cons, ur_cv_in ha]
  exact W.objInit hx hb hown hlink hinst hcode rfl (by rw [hml]; exact hl.1.trans h0) rfl hdg hR.1 (by show 2 * 0 + _ + 12 ≤ _; omega) (hs lsr H locs cells slots hl h0 hP hD hS q1 q2 q3)
/-- Math.max, Math.min -/
theorem ur_i_max (hx : p.tables.exec = Jvm.exec) (hb : c.code = cc) (hml : c.maxLocals = nL) (hown : s.vm.findClass own = some mid.cls) {idx : Nat} (hlink : (Cond.methodLink own idx Lib.Math.max.name).before args s = true) (hstat : (Cond.static Lib.Math.max.name).before args s = true) (hini : (Cond.initialized "java/lang/Math").before args s = true) (hcode : (Cond.code Lib.Math.max.name Lib.Math.max.code 2 (some .int)).before args s = true) (hR : 1 ≤ R.frames ∧ 64 ≤ R.locals) (hR2 : m.1.length ≤ R.cells + L0 ∧ ur_sl m.1 ≤ R.slots + S0) {r : List Value} {a b : Int32} (hr : ((r.map (ur_cv b0 ad)).map fun v => v.category).sum ≤ 8) (hdg : decode cc pc = .ok (.invokestatic idx, 3)) (hs : ur_Wg p l e R s mid args below meth c D cas b0 ad A nL L0 S0 Q ((pc + 3, ls, .int (ur_mx a b) :: r, m))) : ur_Wg p l e R s mid args below meth c D cas b0 ad A nL L0 S0 Q ((pc, ls, .int b :: .int a :: r, m)) := by
  intro lsr H locs cells slots hl h0 hP hD hS q1 q2 q3
  have q2 : cells + L0 = m.1.length := q2
  have q3 : slots + S0 = ur_sl m.1 := q3
  exact va_mmax hx hb (by rw [hml, hl.1]; exact h0.symm) hown hlink hstat hini hcode hR.1 (by omega) (by omega) (by omega) hdg (hs lsr H locs cells slots hl h0 hP hD hS q1 q2 q3)
theorem ur_i_min (hx : p.tables.exec = Jvm.exec) (hb : c.code = cc) (hml : c.maxLocals = nL) (hown : s.vm.findClass own = some mid.cls) {idx : Nat} (hlink : (Cond.methodLink own idx Lib.Math.min.name).before args s = true) (hstat : (Cond.static Lib.Math.min.name).before args s = true) (hini : (Cond.initialized "java/lang/Math").before args s = true) (hcode : (Cond.code Lib.Math.min.name Lib.Math.min.code 2 (some .int)).before args s = true) (hR : 1 ≤ R.frames ∧ 64 ≤ R.locals) (hR2 : m.1.length ≤ R.cells + L0 ∧ ur_sl m.1 ≤ R.slots + S0) {r : List Value} {a b : Int32} (hr : ((r.map (ur_cv b0 ad)).map fun v => v.category).sum ≤ 8) (hdg : decode cc pc = .ok (.invokestatic idx, 3)) (hs : ur_Wg p l e R s mid args below meth c D cas b0 ad A nL L0 S0 Q ((pc + 3, ls, .int (ur_mn a b) :: r, m))) : ur_Wg p l e R s mid args below meth c D cas b0 ad A nL L0 S0 Q ((pc, ls, .int b :: .int a :: r, m)) := by
  intro lsr H locs cells slots hl h0 hP hD hS q1 q2 q3
  have q2 : cells + L0 = m.1.length := q2
  have q3 : slots + S0 = ur_sl m.1 := q3
  exact va_mmin hx hb (by rw [hml, hl.1]; exact h0.symm) hown hlink hstat hini hcode hR.1 (by omega) (by omega) (by omega) hdg (hs lsr H locs cells slots hl h0 hP hD hS q1 q2 q3)
end URN

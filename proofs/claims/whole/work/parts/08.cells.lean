/-! ONE STEP: cells, switches, the rest of the arithmetic -/
section URC
variable {p : Program} {l : Launch} {e : Env} {R : Room} {s : State} {mid : MethodId} {args : Array Value} {below : List Frame} {meth : Method} {c : Code} {D : va_G} {cas : Nat → ClassId} {b0 : Nat} {ad : Nat → Value} {A : Nat → Prop} {nL L0 S0 : Nat} {Q : State → Prop}
variable {cc : ByteArray} {own : String} {pc pc' n x a ci k t : Nat} {i v : Int32} {ls ls' : List (Option Value)} {st st' : List Value} {m m' : ur_M} {self : ur_S → Option ur_V} {call : Nat → List Value → ur_M → Option ur_V} {res : ur_V}
theorem ur_isO_t (h : ur_isO m a ci = true) : m.1[a]? = some (.inl ci) := by
  unfold ur_isO at h
  split at h
  next c hc => rw [hc]; simp at h; rw [h]
  next => cases h
theorem ur_isA_t (h : ur_isA m a t = some n) : m.1[a]? = some (.inr (t, n)) := by
  unfold ur_isA at h
  split at h
  next t' n' hc =>
    rw [hc]
    cases hq : t' == t <;> simp [hq] at h
    simp at hq
    rw [hq, h]
  next => cases h
theorem ur_inb_t (h : ur_inb i n = true) : vp_in i n := by
  unfold ur_inb at h
  unfold vp_in
  simp only [Bool.not_eq_true', Bool.or_eq_false_iff, decide_eq_false_iff_not] at h
  rintro (q | q)
  · exact h.1 q
  · exact h.2 q
theorem ur_cv_in (h : a < ur_base) : ur_cv b0 ad (.ref a) = .ref (b0 + a) := by simp [ur_cv, h]
theorem ur_lo_t {o : Option Nat} {b : Nat} (h : ur_lo o = some b) : o = some b ∧ b < ur_base := by
  unfold ur_lo at h
  split at h
  next b' =>
    cases hq : decide (b' < ur_base) <;> simp [hq] at h
    subst h
    exact ⟨rfl, of_decide_eq_true hq⟩
  next => cases h
theorem ur_small {z : Nat ⊕ (Nat × Nat)} (h : m.1[a]? = some z) (hn : m.1.length ≤ 1000) : a < ur_base := by
  have := (List.getElem?_eq_some_iff.mp h).1
  unfold ur_base
  omega
theorem ur_cond_t {b : Bool} {α : Type} {o : Option α} {w : α} (h : (bif b then o else none) = some w) : b = true ∧ o = some w := by
  cases b with
  | true => exact ⟨rfl, h⟩
  | false => cases h
/-- a field is read -/
theorem ur_i_get (hx : p.tables.exec = Jvm.exec) (hb : c.code = cc) (hts : ∀ w ∈ ur_T, w.before args s = true) (hown : s.vm.findClass own = some mid.cls) (hK : va_K D vwCl (ur_tys cas) s) {idx N : Nat} {C : String} {T : u_T} (hc : vwCl[ci]? = some (C, T, N)) (hin : ∀ w ∈ u_ws C T N, w ∈ ur_T) (hk : k < N) (hN : N = ur_nf ci) (hlink : Cond.fieldLink own idx (T k).1 (T k).2.1 (T k).2.2.1 ∈ ur_T) (hdg : decode cc pc = .ok (.getfield idx, 3)) (ho : m.1[a]? = some (.inl ci)) {w : Value} (hw : ur_cv b0 ad w = ur_fv b0 m a k (ur_kd ci k)) (hs : ur_Wg p l e R s mid args below meth c D cas b0 ad A nL L0 S0 Q ((pc + 3, ls, w :: st, m))) : ur_Wg p l e R s mid args below meth c D cas b0 ad A nL L0 S0 Q ((pc, ls, .ref a :: st, m)) := by
  intro lsr H locs cells slots hl h0 hP hD hS h1 h2 h3
  have hg := hs lsr H locs cells slots hl h0 hP hD hS h1 h2 h3
  simp only [List.map_cons, hw] at hg
  simp only [List.map_cons, ur_cv_in (ur_small ho h1)]
  exact va_get hx hb hts hin hown hK hP a (ur_ws_O ho) hc k hk (hts _ hlink) (fun _ h => h) (ur_fs_at (by rw [← hN]; exact hk)) hdg hg
theorem ur_fits_ref (had : ur_ado ad) {ty : FieldType} (hty : (∃ C, ty = .object C) ∨ ∃ t, ty = .array t) (v : Value) (hv : v = .null ∨ ∃ q, v = .ref q) : narrow ty v = v ∧ fits ty v = true := by
  rcases hty with ⟨C, rfl⟩ | ⟨t, rfl⟩ <;> rcases hv with rfl | ⟨q, rfl⟩ <;> exact ⟨rfl, rfl⟩
/-- a field is written -/
theorem ur_i_put (hx : p.tables.exec = Jvm.exec) (hb : c.code = cc) (hts : ∀ w ∈ ur_T, w.before args s = true) (hown : s.vm.findClass own = some mid.cls) (hK : va_K D vwCl (ur_tys cas) s) {idx N : Nat} {C : String} {T : u_T} (hc : vwCl[ci]? = some (C, T, N)) (hin : ∀ w ∈ u_ws C T N, w ∈ ur_T) (hk : k < N) (hN : N = ur_nf ci) (hlink : Cond.fieldLink own idx (T k).1 (T k).2.1 (T k).2.2.1 ∈ ur_T) (ty : Nat → FieldType) (hty : ∀ k, k < N → parseFieldDescriptor (T k).2.2.1 = some (ty k)) (hnm : ∀ a, a < N → ∀ b, b < N → a ≠ b → (T a).2.1 ≠ (T b).2.1) (hfin : (T k).2.2.2 = true → meth.name = "<init>" ∧ (T k).1 = own) (hdg : decode cc pc = .ok (.putfield idx, 3)) (ho : m.1[a]? = some (.inl ci)) {w : Value} (hn : narrow (ty k) (ur_cv b0 ad w) = ur_cv b0 ad w) (hfit : fits (ty k) (ur_cv b0 ad w) = true) (hsh : m'.1 = m.1) (e1 : ∀ b, b ≠ a → m'.2.1 b = m.2.1 b ∧ m'.2.2.1 b = m.2.2.1 b ∧ m'.2.2.2 b = m.2.2.2 b) (ek : ur_fv b0 m' a k (ur_kd ci k) = ur_cv b0 ad w) (ej : ∀ j, j ≠ k → ur_fv b0 m' a j (ur_kd ci j) = ur_fv b0 m a j (ur_kd ci j)) (hs : ur_Wg p l e R s mid args below meth c D cas b0 ad A nL L0 S0 Q ((pc + 3, ls, st, m'))) : ur_Wg p l e R s mid args below meth c D cas b0 ad A nL L0 S0 Q ((pc, ls, w :: .ref a :: st, m)) := by
  intro lsr H locs cells slots hl h0 hP hD hS h1 h2 h3
  simp only [List.map_cons, ur_cv_in (ur_small ho h1)]
  have hl' : k < (ur_fs b0 m a ci).length := by simp [ur_fs]; rw [← hN]; exact hk
  have kk : ∀ (H1 : Heap) (locs1 : List Loc), va_P D vwCl ((ur_ws b0 cas m).set a (b0 + a, .inr (ci, (ur_fs b0 m a ci).set k (ur_cv b0 ad w)))) H1 → va_D A ((ur_ws b0 cas m).set a (b0 + a, .inr (ci, (ur_fs b0 m a ci).set k (ur_cv b0 ad w)))) → va_S A s.heap H1 locs1 → W p l e R s mid args below meth c H1 locs1 cells slots Q (F0 mid (pc + 3) lsr (st.map (ur_cv b0 ad))) := by
    intro H1 locs1 q1 q2 q3
    rw [ur_ws_put ho hsh e1 ek ej] at q1 q2
    exact hs lsr H1 locs1 cells slots hl h0 q1 q2 q3 (by show m'.1.length ≤ 1000; rw [hsh]; exact h1) (by show _ = m'.1.length; rw [hsh]; exact h2) (by show _ = ur_sl m'.1; rw [hsh]; exact h3)
  cases hf : (T k).2.2.2 with
  | false => exact va_put hx hb hts hin ty hty hnm hown hK hP hD hS a (ur_ws_O ho) hc k hk (hts _ hlink) (fun _ h => h) hf (hty k hk) hn hfit hl' hdg kk
  | true => exact va_putF hx hb hts hin ty hty hnm hown hK hP hD hS a (ur_ws_O ho) hc k hk (hts _ hlink) (fun _ h => h) hf (hfin hf).1 (hfin hf).2 (hty k hk) hn hfit hl' hdg kk
-- arrays are read
theorem ur_i_iaload (hx : p.tables.exec = Jvm.exec) (hb : c.code = cc) (hK : va_K D vwCl (ur_tys cas) s) (hdg : decode cc pc = .ok (.iaload, 1)) (hs : ∀ s', self s' = some res → ur_Wg p l e R s mid args below meth c D cas b0 ad A nL L0 S0 Q (s')) (h : ur_do self call (ur_ald (fun m a i => ur_aI m a 0 i) pc ls st m) = some res) : ur_Wg p l e R s mid args below meth c D cas b0 ad A nL L0 S0 Q ((pc, ls, st, m)) := by
  unfold ur_ald at h
  split at h
  next i a r =>
    obtain ⟨v, h1, h2⟩ := Option.bind_eq_some_iff.mp h
    simp only [ur_aI] at h1
    split at h1
    next n hn =>
      obtain ⟨g1, g2⟩ := ur_cond_t h1
      cases g2
      intro lsr H locs cells slots hl h0 hP hD hS q1 q2 q3
      have ho := ur_isA_t hn
      simp only [List.map_cons, ur_cv_in (ur_small ho q1)]
      exact va_iald hx hb hK hP a 0 (ur_ws_A ho) rfl (ur_inb_t g1) hdg (hs _ h2 lsr H locs cells slots hl h0 hP hD hS q1 q2 q3)
    next => cases h1
  next => cases h
theorem ur_i_caload (hx : p.tables.exec = Jvm.exec) (hb : c.code = cc) (hK : va_K D vwCl (ur_tys cas) s) (hdg : decode cc pc = .ok (.caload, 1)) (hs : ∀ s', self s' = some res → ur_Wg p l e R s mid args below meth c D cas b0 ad A nL L0 S0 Q (s')) (h : ur_do self call (ur_ald (fun m a i => ur_aI m a 3 i) pc ls st m) = some res) : ur_Wg p l e R s mid args below meth c D cas b0 ad A nL L0 S0 Q ((pc, ls, st, m)) := by
  unfold ur_ald at h
  split at h
  next i a r =>
    obtain ⟨v, h1, h2⟩ := Option.bind_eq_some_iff.mp h
    simp only [ur_aI] at h1
    split at h1
    next n hn =>
      obtain ⟨g1, g2⟩ := ur_cond_t h1
      cases g2
      intro lsr H locs cells slots hl h0 hP hD hS q1 q2 q3
      have ho := ur_isA_t hn
      simp only [List.map_cons, ur_cv_in (ur_small ho q1)]
      exact va_cald hx hb hK hP a 3 (ur_ws_A ho) rfl (ur_inb_t g1) hdg (hs _ h2 lsr H locs cells slots hl h0 hP hD hS q1 q2 q3)
    next => cases h1
  next => cases h
theorem ur_i_laload (hx : p.tables.exec = Jvm.exec) (hb : c.code = cc) (hK : va_K D vwCl (ur_tys cas) s) (hdg : decode cc pc = .ok (.laload, 1)) {r : List Value} (hs : ∀ s', self s' = some res → ur_Wg p l e R s mid args below meth c D cas b0 ad A nL L0 S0 Q (s')) (h : ur_do self call (ur_rL (ur_aL m a i) (fun v => (pc + 1, ls, .long v :: r, m))) = some res) : ur_Wg p l e R s mid args below meth c D cas b0 ad A nL L0 S0 Q ((pc, ls, .int i :: .ref a :: r, m)) := by
  obtain ⟨v, h1, h2⟩ := Option.bind_eq_some_iff.mp h
  unfold ur_aL at h1
  split at h1
  next n hn =>
    obtain ⟨g1, g2⟩ := ur_cond_t h1
    cases g2
    intro lsr H locs cells slots hl h0 hP hD hS q1 q2 q3
    have ho := ur_isA_t hn
    simp only [List.map_cons, ur_cv_in (ur_small ho q1)]
    exact va_lald hx hb hK hP a 1 (ur_ws_A ho) rfl (ur_inb_t g1) hdg (hs _ h2 lsr H locs cells slots hl h0 hP hD hS q1 q2 q3)
  next => cases h1
theorem ur_i_aaload (hx : p.tables.exec = Jvm.exec) (hb : c.code = cc) (hK : va_K D vwCl (ur_tys cas) s) (hdg : decode cc pc = .ok (.aaload, 1)) {r : List Value} (hs : ∀ s', self s' = some res → ur_Wg p l e R s mid args below meth c D cas b0 ad A nL L0 S0 Q (s')) (h : ur_do self call (ur_rR (ur_aR m a i) (fun v => (pc + 1, ls, .ref v :: r, m))) = some res) : ur_Wg p l e R s mid args below meth c D cas b0 ad A nL L0 S0 Q ((pc, ls, .int i :: .ref a :: r, m)) := by
  obtain ⟨v, h1, h2⟩ := Option.bind_eq_some_iff.mp h
  unfold ur_aR at h1
  split at h1
  next t n ho =>
    obtain ⟨g1, g2⟩ := ur_cond_t h1
    simp only [Bool.and_eq_true, Bool.or_eq_true, beq_iff_eq] at g1
    obtain ⟨g3, g4⟩ := ur_lo_t g2
    intro lsr H locs cells slots hl h0 hP hD hS q1 q2 q3
    have hg := hs _ h2 lsr H locs cells slots hl h0 hP hD hS q1 q2 q3
    simp only [List.map_cons, ur_cv_in g4] at hg
    simp only [List.map_cons, ur_cv_in (ur_small ho q1)]
    have e : va_rf ((m.2.2.2 a i.toNatClampNeg).map (fun b => b0 + b)) = .ref (b0 + v) := by rw [g3]; rfl
    rw [← e] at hg
    rcases g1.1 with rfl | rfl
    · exact va_aldq hx hb hK hP a 4 (ur_ws_A ho) rfl (ur_inb_t g1.2) hdg hg
    · exact va_aldq hx hb hK hP a 5 (ur_ws_A ho) rfl (ur_inb_t g1.2) hdg hg
  next => cases h1
-- arrays are written
theorem ur_ws_arr {y : vp_A} (ho : m.1[a]? = some (.inr (t, n))) (h1 : m'.1 = m.1) (e1 : ∀ b, b ≠ a → m'.2.1 b = m.2.1 b ∧ m'.2.2.1 b = m.2.2.1 b ∧ m'.2.2.2 b = m.2.2.2 b) (ek : ur_ar b0 m' a t n = y) : (ur_ws b0 cas m).set a (b0 + a, .inl (cas t, y)) = ur_ws b0 cas m' := by
  rw [← ur_ws_set (a := a) h1 (fun b hb => ur_ce_congr (by rw [h1]) (e1 b hb).1 (e1 b hb).2.1 (e1 b hb).2.2), ur_ce_A (by rw [h1]; exact ho), ek]
theorem ur_u_upd {f : Nat → Nat → Int32} {w : Int32} : ur_u f a k w a = upd (f a) k w := by funext j; simp [ur_u, upd]
theorem ur_u_updL {f : Nat → Nat → Int64} {w : Int64} : ur_u f a k w a = vp_updL (f a) k w := by funext j; simp [ur_u, vp_updL]
theorem ur_i_iastore (hx : p.tables.exec = Jvm.exec) (hb : c.code = cc) (hK : va_K D vwCl (ur_tys cas) s) (hdg : decode cc pc = .ok (.iastore, 1)) (hs : ∀ s', self s' = some res → ur_Wg p l e R s mid args below meth c D cas b0 ad A nL L0 S0 Q (s')) (h : ur_do self call (ur_ast (fun m a i v => ur_wI m a 0 i v) pc ls st m) = some res) : ur_Wg p l e R s mid args below meth c D cas b0 ad A nL L0 S0 Q ((pc, ls, st, m)) := by
  unfold ur_ast at h
  split at h
  next v i a r =>
    obtain ⟨m', h1, h2⟩ := Option.bind_eq_some_iff.mp h
    simp only [ur_wI] at h1
    split at h1
    next n hn =>
      obtain ⟨g1, g2⟩ := ur_cond_t h1
      have ho := ur_isA_t hn
      refine ur_s_wr (m' := m') (by rw [← Option.some.inj g2]) (fun lsr H locs cells slots hl hP hD hS q1 kk => ?_) (hs _ h2)
      simp only [List.map_cons, ur_cv_in (ur_small ho q1)]
      refine va_iast hx hb hK hP hD hS a 0 (ur_ws_A ho) rfl (ur_inb_t g1) hdg (fun H1 locs1 p1 p2 p3 => ?_)
      rw [ur_ws_arr (m' := m') ho (by rw [← Option.some.inj g2]) (fun b hb => by rw [← Option.some.inj g2]; exact ⟨ur_u_ne hb, rfl, rfl⟩) (by rw [← Option.some.inj g2]; simp only [ur_ar, ur_u_upd])] at p1 p2
      exact kk H1 locs1 p1 p2 p3
    next => cases h1
  next => cases h
theorem ur_i_bastore (hx : p.tables.exec = Jvm.exec) (hb : c.code = cc) (hK : va_K D vwCl (ur_tys cas) s) (hdg : decode cc pc = .ok (.bastore, 1)) (hs : ∀ s', self s' = some res → ur_Wg p l e R s mid args below meth c D cas b0 ad A nL L0 S0 Q (s')) (h : ur_do self call (ur_ast (fun m a i v => ur_wI m a 2 i (vp_nar .boolean v)) pc ls st m) = some res) : ur_Wg p l e R s mid args below meth c D cas b0 ad A nL L0 S0 Q ((pc, ls, st, m)) := by
  unfold ur_ast at h
  split at h
  next v i a r =>
    obtain ⟨m', h1, h2⟩ := Option.bind_eq_some_iff.mp h
    simp only [ur_wI] at h1
    split at h1
    next n hn =>
      obtain ⟨g1, g2⟩ := ur_cond_t h1
      have ho := ur_isA_t hn
      refine ur_s_wr (m' := m') (by rw [← Option.some.inj g2]) (fun lsr H locs cells slots hl hP hD hS q1 kk => ?_) (hs _ h2)
      simp only [List.map_cons, ur_cv_in (ur_small ho q1)]
      refine va_zast hx hb hK hP hD hS a 2 (ur_ws_A ho) rfl (ur_inb_t g1) hdg (fun H1 locs1 p1 p2 p3 => ?_)
      rw [ur_ws_arr (m' := m') ho (by rw [← Option.some.inj g2]) (fun b hb => by rw [← Option.some.inj g2]; exact ⟨ur_u_ne hb, rfl, rfl⟩) (by rw [← Option.some.inj g2]; simp only [ur_ar, ur_u_upd])] at p1 p2
      exact kk H1 locs1 p1 p2 p3
    next => cases h1
  next => cases h
theorem ur_i_castore (hx : p.tables.exec = Jvm.exec) (hb : c.code = cc) (hK : va_K D vwCl (ur_tys cas) s) (hdg : decode cc pc = .ok (.castore, 1)) (hs : ∀ s', self s' = some res → ur_Wg p l e R s mid args below meth c D cas b0 ad A nL L0 S0 Q (s')) (h : ur_do self call (ur_ast (fun m a i v => ur_wI m a 3 i (vp_nar .char v)) pc ls st m) = some res) : ur_Wg p l e R s mid args below meth c D cas b0 ad A nL L0 S0 Q ((pc, ls, st, m)) := by
  unfold ur_ast at h
  split at h
  next v i a r =>
    obtain ⟨m', h1, h2⟩ := Option.bind_eq_some_iff.mp h
    simp only [ur_wI] at h1
    split at h1
    next n hn =>
      obtain ⟨g1, g2⟩ := ur_cond_t h1
      have ho := ur_isA_t hn
      refine ur_s_wr (m' := m') (by rw [← Option.some.inj g2]) (fun lsr H locs cells slots hl hP hD hS q1 kk => ?_) (hs _ h2)
      simp only [List.map_cons, ur_cv_in (ur_small ho q1)]
      refine va_cast hx hb hK hP hD hS a 3 (ur_ws_A ho) rfl (ur_inb_t g1) hdg (fun H1 locs1 p1 p2 p3 => ?_)
      rw [ur_ws_arr (m' := m') ho (by rw [← Option.some.inj g2]) (fun b hb => by rw [← Option.some.inj g2]; exact ⟨ur_u_ne hb, rfl, rfl⟩) (by rw [← Option.some.inj g2]; simp only [ur_ar, ur_u_upd])] at p1 p2
      exact kk H1 locs1 p1 p2 p3
    next => cases h1
  next => cases h
theorem ur_i_lastore (hx : p.tables.exec = Jvm.exec) (hb : c.code = cc) (hK : va_K D vwCl (ur_tys cas) s) (hdg : decode cc pc = .ok (.lastore, 1)) {r : List Value} {v : Int64} (hs : ∀ s', self s' = some res → ur_Wg p l e R s mid args below meth c D cas b0 ad A nL L0 S0 Q (s')) (h : ur_do self call (ur_rM (ur_wL m a i v) (fun m => (pc + 1, ls, r, m))) = some res) : ur_Wg p l e R s mid args below meth c D cas b0 ad A nL L0 S0 Q ((pc, ls, .long v :: .int i :: .ref a :: r, m)) := by
  obtain ⟨m', h1, h2⟩ := Option.bind_eq_some_iff.mp h
  simp only [ur_wL] at h1
  split at h1
  next n hn =>
    obtain ⟨g1, g2⟩ := ur_cond_t h1
    have ho := ur_isA_t hn
    refine ur_s_wr (m' := m') (by rw [← Option.some.inj g2]) (fun lsr H locs cells slots hl hP hD hS q1 kk => ?_) (hs _ h2)
    simp only [List.map_cons, ur_cv_in (ur_small ho q1)]
    refine va_last hx hb hK hP hD hS a 1 (ur_ws_A ho) rfl (ur_inb_t g1) hdg (fun H1 locs1 p1 p2 p3 => ?_)
    rw [ur_ws_arr (m' := m') ho (by rw [← Option.some.inj g2]) (fun b hb => by rw [← Option.some.inj g2]; exact ⟨rfl, ur_u_ne hb, rfl⟩) (by rw [← Option.some.inj g2]; simp only [ur_ar, ur_u_updL])] at p1 p2
    exact kk H1 locs1 p1 p2 p3
  next => cases h1
theorem ur_i_aastore (hx : p.tables.exec = Jvm.exec) (hb : c.code = cc) (hK : va_K D vwCl (ur_tys cas) s) (hdg : decode cc pc = .ok (.aastore, 1)) {r : List Value} {v : Nat} (hs : ∀ s', self s' = some res → ur_Wg p l e R s mid args below meth c D cas b0 ad A nL L0 S0 Q (s')) (h : ur_do self call (ur_rM (ur_wR m a i v) (fun m => (pc + 1, ls, r, m))) = some res) : ur_Wg p l e R s mid args below meth c D cas b0 ad A nL L0 S0 Q ((pc, ls, .ref v :: .int i :: .ref a :: r, m)) := by
  obtain ⟨m', h1, h2⟩ := Option.bind_eq_some_iff.mp h
  simp only [ur_wR] at h1
  split at h1
  next t n ho =>
    obtain ⟨g1, g2⟩ := ur_cond_t h1
    simp only [Bool.and_eq_true, Bool.or_eq_true, beq_iff_eq] at g1
    obtain ⟨g1, g3⟩ := g1
    refine ur_s_wr (m' := m') (by rw [← Option.some.inj g2]) (fun lsr H locs cells slots hl hP hD hS q1 kk => ?_) (hs _ h2)
    have e3 : ∀ b, b ≠ a → m'.2.1 b = m.2.1 b ∧ m'.2.2.1 b = m.2.2.1 b ∧ m'.2.2.2 b = m.2.2.2 b := fun b hb => by rw [← Option.some.inj g2]; exact ⟨rfl, rfl, ur_u_ne hb⟩
    have e4 : (fun j => (m'.2.2.2 a j).map (fun b => b0 + b)) = va_up (fun j => (m.2.2.2 a j).map (fun b => b0 + b)) i.toNatClampNeg (some (b0 + v)) := by
      rw [← Option.some.inj g2]
      funext j
      by_cases hj : j = i.toNatClampNeg
      · simp [ur_u, va_up, hj]
      · simp [ur_u, va_up, hj]
    rcases g1 with ⟨rfl, gv⟩ | ⟨rfl, gv⟩
    · have hv := ur_isO_t gv
      simp only [List.map_cons, ur_cv_in (ur_small ho q1), ur_cv_in (ur_small hv q1)]
      refine va_astq (r := (RX5, TX5, 9)) hx hb hK hP hD hS a 4 v 5 (ur_ws_A ho) rfl (ur_ws_O hv) rfl (ur_inb_t g3) hdg (fun H1 locs1 p1 p2 p3 => ?_)
      rw [ur_ws_arr (m' := m') ho (by rw [← Option.some.inj g2]) e3 (by simp only [ur_ar, e4])] at p1 p2
      exact kk H1 locs1 p1 p2 p3
    · have hv := ur_isO_t gv
      simp only [List.map_cons, ur_cv_in (ur_small ho q1), ur_cv_in (ur_small hv q1)]
      refine va_astq (r := (RX4, TX4, 4)) hx hb hK hP hD hS a 5 v 4 (ur_ws_A ho) rfl (ur_ws_O hv) rfl (ur_inb_t g3) hdg (fun H1 locs1 p1 p2 p3 => ?_)
      rw [ur_ws_arr (m' := m') ho (by rw [← Option.some.inj g2]) e3 (by simp only [ur_ar, e4])] at p1 p2
      exact kk H1 locs1 p1 p2 p3
  next => cases h1
-- the rest of the arithmetic
theorem ur_i_idiv (hx : p.tables.exec = Jvm.exec) (hb : c.code = cc) (hdg : decode cc pc = .ok (.idiv, 1)) {r : List Value} {a b : Int32} (hs : ∀ s', self s' = some res → ur_Wg p l e R s mid args below meth c D cas b0 ad A nL L0 S0 Q (s')) (h : ur_do self call (ur_rI (bif b == 0 then none else some (a / b)) (fun v => (pc + 1, ls, .int v :: r, m))) = some res) : ur_Wg p l e R s mid args below meth c D cas b0 ad A nL L0 S0 Q ((pc, ls, .int b :: .int a :: r, m)) := by
  obtain ⟨v, h1, h2⟩ := Option.bind_eq_some_iff.mp h
  cases hz : b == 0 with
  | true => rw [hz] at h1; cases h1
  | false =>
    rw [hz] at h1
    cases h1
    exact ur_s_nx (fun lsr H locs cells slots _ _ _ k => lv_idiv hx hb hdg (fun q => by simp [q] at hz) k) (hs _ h2)
theorem ur_i_irem (hx : p.tables.exec = Jvm.exec) (hb : c.code = cc) (hdg : decode cc pc = .ok (.irem, 1)) {r : List Value} {a b : Int32} (hs : ∀ s', self s' = some res → ur_Wg p l e R s mid args below meth c D cas b0 ad A nL L0 S0 Q (s')) (h : ur_do self call (ur_rI (bif b == 0 then none else some (a - a / b * b)) (fun v => (pc + 1, ls, .int v :: r, m))) = some res) : ur_Wg p l e R s mid args below meth c D cas b0 ad A nL L0 S0 Q ((pc, ls, .int b :: .int a :: r, m)) := by
  obtain ⟨v, h1, h2⟩ := Option.bind_eq_some_iff.mp h
  cases hz : b == 0 with
  | true => rw [hz] at h1; cases h1
  | false =>
    rw [hz] at h1
    cases h1
    exact ur_s_nx (fun lsr H locs cells slots _ _ _ k => lv_irem hx hb hdg (fun q => by simp [q] at hz) k) (hs _ h2)
theorem ur_i_ldiv (hx : p.tables.exec = Jvm.exec) (hb : c.code = cc) (hdg : decode cc pc = .ok (.ldiv, 1)) {r : List Value} {a b : Int64} (hs : ∀ s', self s' = some res → ur_Wg p l e R s mid args below meth c D cas b0 ad A nL L0 S0 Q (s')) (h : ur_do self call (ur_rL (bif b == 0 then none else some (a / b)) (fun v => (pc + 1, ls, .long v :: r, m))) = some res) : ur_Wg p l e R s mid args below meth c D cas b0 ad A nL L0 S0 Q ((pc, ls, .long b :: .long a :: r, m)) := by
  obtain ⟨v, h1, h2⟩ := Option.bind_eq_some_iff.mp h
  cases hz : b == 0 with
  | true => rw [hz] at h1; cases h1
  | false =>
    rw [hz] at h1
    cases h1
    exact ur_s_nx (fun lsr H locs cells slots _ _ _ k => lv_ldiv hx hb hdg (fun q => by simp [q] at hz) k) (hs _ h2)
theorem ur_i_lrem (hx : p.tables.exec = Jvm.exec) (hb : c.code = cc) (hdg : decode cc pc = .ok (.lrem, 1)) {r : List Value} {a b : Int64} (hs : ∀ s', self s' = some res → ur_Wg p l e R s mid args below meth c D cas b0 ad A nL L0 S0 Q (s')) (h : ur_do self call (ur_rL (bif b == 0 then none else some (a - a / b * b)) (fun v => (pc + 1, ls, .long v :: r, m))) = some res) : ur_Wg p l e R s mid args below meth c D cas b0 ad A nL L0 S0 Q ((pc, ls, .long b :: .long a :: r, m)) := by
  obtain ⟨v, h1, h2⟩ := Option.bind_eq_some_iff.mp h
  cases hz : b == 0 with
  | true => rw [hz] at h1; cases h1
  | false =>
    rw [hz] at h1
    cases h1
    exact ur_s_nx (fun lsr H locs cells slots _ _ _ k => lv_lrem hx hb hdg (fun q => by simp [q] at hz) k) (hs _ h2)
theorem ur_i_l2i (hx : p.tables.exec = Jvm.exec) (hb : c.code = cc) (hdg : decode cc pc = .ok (.l2i, 1)) {r : List Value} {a : Int64} (hs : ur_Wg p l e R s mid args below meth c D cas b0 ad A nL L0 S0 Q ((pc + 1, ls, .int a.toInt32 :: r, m))) : ur_Wg p l e R s mid args below meth c D cas b0 ad A nL L0 S0 Q ((pc, ls, .long a :: r, m)) :=
  ur_s_nx (fun lsr H locs cells slots _ _ _ k => lv_l2i hx hb hdg rfl k) hs
theorem ur_i_lushr (hx : p.tables.exec = Jvm.exec) (hb : c.code = cc) (hdg : decode cc pc = .ok (.lushr, 1)) {r : List Value} {a : Int64} {b : Int32} (hs : ur_Wg p l e R s mid args below meth c D cas b0 ad A nL L0 S0 Q ((pc + 1, ls, .long (a.toUInt64 >>> (b.toInt64.toUInt64 &&& Int64.toUInt64 63)).toInt64 :: r, m))) : ur_Wg p l e R s mid args below meth c D cas b0 ad A nL L0 S0 Q ((pc, ls, .int b :: .long a :: r, m)) :=
  ur_s_nx (fun lsr H locs cells slots _ _ _ k => lv_lushr hx hb hdg rfl k) hs
theorem ur_i_lcmp (hx : p.tables.exec = Jvm.exec) (hb : c.code = cc) (hdg : decode cc pc = .ok (.lcmp, 1)) {r : List Value} {a b : Int64} (hs : ur_Wg p l e R s mid args below meth c D cas b0 ad A nL L0 S0 Q ((pc + 1, ls, .int (lg_cmp a b) :: r, m))) : ur_Wg p l e R s mid args below meth c D cas b0 ad A nL L0 S0 Q ((pc, ls, .long b :: .long a :: r, m)) :=
  ur_s_nx (fun lsr H locs cells slots _ _ _ k => W.lcmp hx hb hdg k) hs
theorem ur_i_dup (hx : p.tables.exec = Jvm.exec) (hb : c.code = cc) (had : ur_ado ad) (hdg : decode cc pc = .ok (.dup, 1)) {r : List Value} {w : Value} (hw : w.category = 1) (hs : ur_Wg p l e R s mid args below meth c D cas b0 ad A nL L0 S0 Q ((pc + 1, ls, w :: w :: r, m))) : ur_Wg p l e R s mid args below meth c D cas b0 ad A nL L0 S0 Q ((pc, ls, w :: r, m)) :=
  ur_s_nx (fun lsr H locs cells slots _ _ _ k => lv_dup hx hb hdg ((ur_cv_cat had w).trans hw) k) hs
theorem ur_i_pop (hx : p.tables.exec = Jvm.exec) (hb : c.code = cc) (had : ur_ado ad) (hdg : decode cc pc = .ok (.pop, 1)) {r : List Value} {w : Value} (hw : w.category = 1) (hs : ur_Wg p l e R s mid args below meth c D cas b0 ad A nL L0 S0 Q ((pc + 1, ls, r, m))) : ur_Wg p l e R s mid args below meth c D cas b0 ad A nL L0 S0 Q ((pc, ls, w :: r, m)) :=
  ur_s_nx (fun lsr H locs cells slots _ _ _ k => lv_pop hx hb hdg ((ur_cv_cat had w).trans hw) k) hs
theorem ur_i_dup2 (hx : p.tables.exec = Jvm.exec) (hb : c.code = cc) (had : ur_ado ad) (hdg : decode cc pc = .ok (.dup2, 1)) {r : List Value} {w u : Value} (hw : w.category = 1) (hu : u.category = 1) (hs : ur_Wg p l e R s mid args below meth c D cas b0 ad A nL L0 S0 Q ((pc + 1, ls, w :: u :: w :: u :: r, m))) : ur_Wg p l e R s mid args below meth c D cas b0 ad A nL L0 S0 Q ((pc, ls, w :: u :: r, m)) :=
  ur_s_nx (fun lsr H locs cells slots _ _ _ k => lv_dup2_11 hx hb hdg ((ur_cv_cat had w).trans hw) ((ur_cv_cat had u).trans hu) k) hs
end URC

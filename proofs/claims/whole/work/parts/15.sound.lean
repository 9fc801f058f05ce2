section URZ
variable {l : Launch} {G : Nat → ur_P} {N : Nat → ur_NI} {p : Program} {e : Env} {R : Room} {s : State} {mid : MethodId} {args : Array Value} {below : List Frame} {meth : Method} {c : Code} {D : va_G} {cas : Nat → ClassId} {b0 : Nat} {ad : Nat → Value} {A : Nat → Prop} {nL L0 S0 : Nat} {Q : State → Prop}
variable {cc : ByteArray} {own : String} {pc n x idx k d : Nat} {v : Int32} {ls : List (Option Value)} {st : List Value} {m : ur_M} {self : ur_S → Option ur_V} {call : Nat → List Value → ur_M → Option ur_V} {res : ur_V}
/-- getfield -/
theorem ur_j_getf (hx : p.tables.exec = Jvm.exec) (hb : c.code = cc) (hts : ∀ w ∈ ur_T, w.before args s = true) (hown : s.vm.findClass own = some mid.cls) (hK : va_K D vwCl (ur_tys cas) s) (hO : ur_Old ad A s) (hcl : ur_clsOk) (hok : (x = 5123 ∧ Cond.fieldLink own idx "java/lang/String" "value" "[B" ∈ ur_T) ∨ (x = 5120 ∧ Cond.fieldLink own idx "java/lang/String" "coder" "B" ∈ ur_T) ∨ ur_okF own idx x) (hdg : decode cc pc = .ok (.getfield idx, 3)) (hs : ∀ s', self s' = some res → ur_Wg p l e R s mid args below meth c D cas b0 ad A nL L0 S0 Q (s')) (h : ur_do self call (ur_getf x pc ls st m) = some res) : ur_Wg p l e R s mid args below meth c D cas b0 ad A nL L0 S0 Q ((pc, ls, st, m)) := by
  unfold ur_getf at h
  split at h
  next a r =>
    rcases hok with ⟨rfl, hl⟩ | ⟨rfl, hl⟩ | ⟨h11, C, T, N', hc, hk, hl, hkd⟩
    · obtain ⟨b, h1, h2⟩ := Option.bind_eq_some_iff.mp h
      have h1 : (bif decide (ur_base ≤ a ∧ a < ur_base + 3) then some (a + 10) else none) = some b := h1
      obtain ⟨g1, g2⟩ := ur_cond_t h1
      cases g2
      exact ur_i_getVa hx hb hown hO (hts _ hl) hdg g1 (hs _ h2)
    · obtain ⟨b, h1, h2⟩ := Option.bind_eq_some_iff.mp h
      have h1 : (bif decide (ur_base ≤ a ∧ a < ur_base + 3) then some (0 : Int32) else none) = some b := h1
      obtain ⟨g1, g2⟩ := ur_cond_t h1
      cases g2
      exact ur_i_getCo hx hb hown hO (hts _ hl) hdg g1 (hs _ h2)
    · obtain ⟨c1, c2, c3, ⟨ty, c4, c5⟩, c6, c7⟩ := hcl _ _ _ _ hc
      have h20 : (x / 256 == 20) = false := by simp; omega
      split at h
      next hk4 =>
        obtain ⟨b, h1, h2⟩ := Option.bind_eq_some_iff.mp h
        obtain ⟨g1, g2⟩ := ur_cond_t h1
        cases g2
        exact ur_i_get hx hb hts hown hK hc c1 hk c2 hl hdg (ur_isO_t g1) (by rw [hkd, hk4]; rfl) (hs _ h2)
      next hk4 =>
        obtain ⟨b, h1, h2⟩ := Option.bind_eq_some_iff.mp h
        unfold ur_fR at h1
        rw [h20] at h1
        simp only [cond_false] at h1
        obtain ⟨g1, g2⟩ := ur_cond_t h1
        obtain ⟨g3, g4⟩ := ur_lo_t g2
        exact ur_i_get hx hb hts hown hK hc c1 hk c2 hl hdg (ur_isO_t g1) (by rw [hkd, hk4, ur_cv_in g4]; simp only [ur_fv, g3]; rfl) (hs _ h2)
      next hk2 hk3 =>
        obtain ⟨b, h1, h2⟩ := Option.bind_eq_some_iff.mp h
        unfold ur_fI at h1
        rw [h20] at h1
        simp only [cond_false] at h1
        obtain ⟨g1, g2⟩ := ur_cond_t h1
        cases g2
        have a2 : ¬ x % 4 = 2 := hk2
        have a3 : ¬ x % 4 = 3 := hk3
        exact ur_i_get hx hb hts hown hK hc c1 hk c2 hl hdg (ur_isO_t g1) (by
          rw [hkd]
          rcases (show x % 4 = 0 ∨ x % 4 = 1 by omega) with z | z <;> rw [z] <;> rfl) (hs _ h2)
  next => cases h
/-- putfield -/
theorem ur_j_putf (hx : p.tables.exec = Jvm.exec) (hb : c.code = cc) (had : ur_ado ad) (hts : ∀ w ∈ ur_T, w.before args s = true) (hown : s.vm.findClass own = some mid.cls) (hK : va_K D vwCl (ur_tys cas) s) (hcl : ur_clsOk) (hok : ur_okF own idx x) {ini : Bool} (hini : ini = true → meth.name = "<init>") (hfin : ∀ (C : String) (T : u_T) (N : Nat), vwCl[x / 256]? = some (C, T, N) → (T (x / 4 % 64)).2.2.2 = true → ini = true ∧ (T (x / 4 % 64)).1 = own) (hdg : decode cc pc = .ok (.putfield idx, 3)) (hs : ∀ s', self s' = some res → ur_Wg p l e R s mid args below meth c D cas b0 ad A nL L0 S0 Q (s')) (h : ur_do self call (ur_putf x pc ls st m) = some res) : ur_Wg p l e R s mid args below meth c D cas b0 ad A nL L0 S0 Q ((pc, ls, st, m)) := by
  obtain ⟨h11, C, T, N', hc, hk, hl, hkd⟩ := hok
  obtain ⟨c1, c2, c3, ⟨ty, c4, c5⟩, c6, c7⟩ := hcl _ _ _ _ hc
  have hf : (T (x / 4 % 64)).2.2.2 = true → meth.name = "<init>" ∧ (T (x / 4 % 64)).1 = own := fun q => ⟨hini (hfin C T N' hc q).1, (hfin C T N' hc q).2⟩
  have hkt := c5 _ hk
  rw [hkd] at hkt
  unfold ur_putf at h
  split at h
  next z0 =>
    rw [z0] at hkt hkd
    have hty : ty (x / 4 % 64) = .int := by rcases hkt with z | z | z | z <;> first | exact z.2 | (have := z.1; omega)
    split at h
    next w a r =>
      obtain ⟨m', h1, h2⟩ := Option.bind_eq_some_iff.mp h
      obtain ⟨g1, g2⟩ := ur_cond_t h1
      cases g2
      exact ur_i_put (w := .int w) (m' := (m.1, ur_u m.2.1 a (x / 4 % 64) w, m.2.2)) hx hb hts hown hK hc c1 hk c2 hl ty c4 c3 hf hdg (ur_isO_t g1) (by rw [hty]; rfl) (by rw [hty]; rfl) rfl (fun b hb => ⟨ur_u_ne hb, rfl, rfl⟩) (by rw [hkd]; simp only [ur_fv, ur_u_at]; rfl) (fun j hj => by unfold ur_fv; simp only [ur_u_ot hj]) (hs _ h2)
    next => cases h
  next z0 =>
    rw [z0] at hkt hkd
    have hty : ty (x / 4 % 64) = .boolean := by rcases hkt with z | z | z | z <;> first | exact z.2 | (have := z.1; omega)
    split at h
    next w a r =>
      obtain ⟨m', h1, h2⟩ := Option.bind_eq_some_iff.mp h
      obtain ⟨g0, h1⟩ := ur_cond_t h1
      obtain ⟨g1, g2⟩ := ur_cond_t h1
      cases g2
      simp only [Bool.or_eq_true, beq_iff_eq] at g0
      exact ur_i_put (w := .int w) (m' := (m.1, ur_u m.2.1 a (x / 4 % 64) w, m.2.2)) hx hb hts hown hK hc c1 hk c2 hl ty c4 c3 hf hdg (ur_isO_t g1) (by rw [hty]; rcases g0 with rfl | rfl <;> rfl) (by rw [hty]; rcases g0 with rfl | rfl <;> rfl) rfl (fun b hb => ⟨ur_u_ne hb, rfl, rfl⟩) (by rw [hkd]; simp only [ur_fv, ur_u_at]; rfl) (fun j hj => by unfold ur_fv; simp only [ur_u_ot hj]) (hs _ h2)
    next => cases h
  next z0 =>
    rw [z0] at hkt hkd
    have hty : ty (x / 4 % 64) = .long := by rcases hkt with z | z | z | z <;> first | exact z.2 | (have := z.1; omega)
    split at h
    next w a r =>
      obtain ⟨m', h1, h2⟩ := Option.bind_eq_some_iff.mp h
      obtain ⟨g1, g2⟩ := ur_cond_t h1
      cases g2
      exact ur_i_put (w := .long w) (m' := (m.1, m.2.1, ur_u m.2.2.1 a (x / 4 % 64) w, m.2.2.2)) hx hb hts hown hK hc c1 hk c2 hl ty c4 c3 hf hdg (ur_isO_t g1) (by rw [hty]; rfl) (by rw [hty]; rfl) rfl (fun b hb => ⟨rfl, ur_u_ne hb, rfl⟩) (by rw [hkd]; simp only [ur_fv, ur_u_at]; rfl) (fun j hj => by unfold ur_fv; simp only [ur_u_ot hj]) (hs _ h2)
    next => cases h
  next n0 n1 n2 =>
    have a0 : ¬ x % 4 = 0 := n0
    have a1 : ¬ x % 4 = 1 := n1
    have a2 : ¬ x % 4 = 2 := n2
    have z0 : x % 4 = 3 := by omega
    rw [z0] at hkt hkd
    have hty : (∃ C, ty (x / 4 % 64) = .object C) ∨ ∃ t, ty (x / 4 % 64) = .array t := by rcases hkt with z | z | z | z <;> first | exact z.2 | (have := z.1; omega)
    split at h
    next w a r =>
      obtain ⟨m', h1, h2⟩ := Option.bind_eq_some_iff.mp h
      obtain ⟨g1, g2⟩ := ur_cond_t h1
      cases g2
      simp only [Bool.and_eq_true, decide_eq_true_eq] at g1
      have hfit := ur_fits_ref had hty (ur_cv b0 ad (.ref w)) (ur_cv_ref had w)
      exact ur_i_put (w := .ref w) (m' := (m.1, m.2.1, m.2.2.1, ur_u m.2.2.2 a (x / 4 % 64) (some w))) hx hb hts hown hK hc c1 hk c2 hl ty c4 c3 hf hdg (ur_isO_t g1.1) hfit.1 hfit.2 rfl (fun b hb => ⟨rfl, rfl, ur_u_ne hb⟩) (by rw [hkd, ur_cv_in g1.2]; simp only [ur_fv, ur_u_at]; rfl) (fun j hj => by unfold ur_fv; simp only [ur_u_ot hj]) (hs _ h2)
    next => cases h
theorem ur_ktf_def {ci k : Nat} {ty : FieldType} (h : ur_ktf (ur_kd ci k) ty) : defaultValue ty = (match ur_kd ci k with | 2 => .long 0 | 3 => .null | _ => .int 0) := by
  rcases h with ⟨z, rfl⟩ | ⟨z, rfl⟩ | ⟨z, rfl⟩ | ⟨z, ⟨C, rfl⟩ | ⟨t, rfl⟩⟩ <;> rw [z] <;> rfl
/-- a return with an int -/
theorem ur_j_ret (hx : p.tables.exec = Jvm.exec) (hb : c.code = cc) {ty : FieldType} (hr : meth.sig.returnType = some ty) (hlocks : meth.locks = false) {a : Int32} (hn : narrow ty (.int a) = .int a) (hdg : decode cc pc = .ok (.ireturn, 1)) : ur_Wg p l e R s mid args below meth c D cas b0 ad A nL L0 S0 (MQ below (ur_Qc D cas b0 A (some ty) (a, m)) args s (m.1.length - L0) (ur_sl m.1 - S0) A) (pc, ls, [.int a], m) := by
  intro lsr H locs cells slots hl h0 hP hD hS q1 q2 q3
  have q2 : cells + L0 = m.1.length := q2
  have q3 : slots + S0 = ur_sl m.1 := q3
  have e1 : m.1.length - L0 = cells := by omega
  have e2 : ur_sl m.1 - S0 = slots := by omega
  rw [e1, e2]
  exact W.zret hx hb hr hn (fun t ht hW => ⟨⟨a, (), rfl, rfl, by rw [ht]; exact hP, hD, q1⟩, hS.F ht⟩) hS.2.2 hdg hlocks
theorem ur_j_retv (hx : p.tables.exec = Jvm.exec) (hb : c.code = cc) (hr : meth.sig.returnType = none) (hlocks : meth.locks = false) (hdg : decode cc pc = .ok (.return_, 1)) : ur_Wg p l e R s mid args below meth c D cas b0 ad A nL L0 S0 (MQ below (ur_Qc D cas b0 A none (0, m)) args s (m.1.length - L0) (ur_sl m.1 - S0) A) (pc, ls, [], m) := by
  intro lsr H locs cells slots hl h0 hP hD hS q1 q2 q3
  have q2 : cells + L0 = m.1.length := q2
  have q3 : slots + S0 = ur_sl m.1 := q3
  have e1 : m.1.length - L0 = cells := by omega
  have e2 : ur_sl m.1 - S0 = slots := by omega
  rw [e1, e2]
  exact W.vret hx hb hr (fun t ht hW => ⟨⟨(), rfl, trivial, by rw [ht]; exact hP, hD, q1⟩, hS.F ht⟩) hS.2.2 hdg hlocks
end URZ

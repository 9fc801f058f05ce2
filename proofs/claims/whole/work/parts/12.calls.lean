/-! CALLS: what the pure machine's run of a method says of the machine's -/
/-- what the tables say of method y -/
def ur_okM (G : Nat → ur_P) (N : Nat → ur_NI) (y : Nat) : Prop := Cond.code (N y).1 (N y).2.1 (G y).2.2.1 (N y).2.2 ∈ ur_T ∧ Jvm.plainName (N y).1.cls = true ∧ ((N y).1.cls ≠ "java/lang/invoke/MethodHandle" ∧ (N y).1.cls ≠ "java/lang/invoke/VarHandle") ∧ (G y).2.2.1 ≤ 40 ∧ Cond.initialized (N y).1.cls ∈ ur_T ∧ ∀ ty, (N y).2.2 = some ty → ∀ a, ur_fit (G y).2.2.2.1 a = true → narrow ty (.int a) = .int a
def ur_B (D : va_G) (cas : Nat → ClassId) (b0 : Nat) (A : Nat → Prop) (m : ur_M) (t : State) : Prop := va_P D vwCl (ur_ws b0 cas m) t.heap ∧ va_D A (ur_ws b0 cas m) ∧ m.1.length ≤ 1000
def ur_Qc (D : va_G) (cas : Nat → ClassId) (b0 : Nat) (A : Nat → Prop) (ret : Option FieldType) (res : ur_V) : Array Value → State → Outcome → State → Prop := match ret with
  | none => va_Qv (fun _ : Unit => True) (fun _ t => ur_B D cas b0 A res.2 t) A
  | some _ => va_Qi (fun (r : Int32) (_ : Unit) => r = res.1) (fun _ t => ur_B D cas b0 A res.2 t) A
def ur_Cx (G : Nat → ur_P) (N : Nat → ur_NI) (D : va_G) (cas : Nat → ClassId) (b0 : Nat) (ad : Nat → Value) (p : Program) (R : Room) (s : State) (mid : MethodId) (args : Array Value) (meth : Method) (c : Code) (A : Nat → Prop) (d k : Nat) : Prop := p.tables.exec = Jvm.exec ∧ c.code = (N k).2.1 ∧ c.maxLocals = (G k).2.2.1 ∧ s.vm.findClass (N k).1.cls = some mid.cls ∧ (∀ w ∈ ur_T, w.before args s = true) ∧ meth.sig.returnType = (N k).2.2 ∧ meth.locks = false ∧ meth.name = (N k).1.name ∧ va_K D vwCl (ur_tys cas) s ∧ ur_Old ad A s ∧ (∀ q, s.heap.size ≤ q → A q) ∧ (∀ z, A z → b0 ≤ z) ∧ b0 ≤ s.heap.size ∧ d + 1 ≤ R.frames ∧ 64 * (d + 1) ≤ R.locals
def ur_IH (l : Launch) (G : Nat → ur_P) (N : Nat → ur_NI) (D : va_G) (cas : Nat → ClassId) (b0 : Nat) (ad : Nat → Value) (n : Nat) : Prop := ∀ (d k : Nat) (S : ur_S) (res : ur_V), ur_ex G n d k S = some res → ur_okM G N k → ∀ (p : Program) (e : Env) (R : Room) (s : State) (mid : MethodId) (args : Array Value) (below : List Frame) (meth : Method) (c : Code) (A : Nat → Prop) (L0 S0 : Nat), ur_Cx G N D cas b0 ad p R s mid args meth c A d k → (s.heap.size = b0 + L0 ∨ res.2.1.length = L0) → (res.2.1.length ≤ R.cells + L0 ∧ ur_sl res.2.1 ≤ R.slots + S0) → ur_Wg p l e R s mid args below meth c D cas b0 ad A (G k).2.2.1 L0 S0 (MQ below (ur_Qc D cas b0 A (N k).2.2 res) args s (res.2.1.length - L0) (ur_sl res.2.1 - S0) A) S
theorem ur_Old.same {ad : Nat → Value} {A : Nat → Prop} {s U : State} (h : ur_Old ad A s) (hv : U.vm = s.vm) (hh : U.heap = s.heap) : ur_Old ad A U := by
  obtain ⟨adK, adV, h1, h2, ⟨r0, r1, r2⟩, h4, h5, h6, h7, h8⟩ := h
  have ha : s.vm.Alike U.vm := by rw [hv]; exact Vm.Alike.refl s.vm
  refine ⟨adK, adV, h1, by rw [hh]; exact h2.moved ha, ⟨vk_R.same hv r0, vk_R.same hv r1, vk_R.same hv r2⟩, by rw [hh]; exact h4.moved ha, by rw [hh]; exact h5.moved ha, fun w hw => ?_, h7.moved ha, h8.moved ha⟩
  have h9 := h6 w hw
  have h10 := (List.mem_filter.mp hw).2
  cases w <;> simp at h10
  exact va_Nw.same rfl hv.symm h9
theorem ur_T_good {w : Cond} (h : w ∈ ur_T) : (w.onTables && w.keeps) = true ∨ ∃ ty, w = .arrayClass ty := good_of_word (List.mem_filter.mp h).2
-- the locals at an entry
theorem ur_slots_in (b0 : Nat) (ad : Nat → Value) (had : ur_ado ad) : ∀ (as : List Value) (o i : Nat) (v : Value), (ur_slots as)[i]? = some (some v) → (o + i, ur_cv b0 ad v) ∈ lv_args o (as.map (ur_cv b0 ad))
  | [], _, _, _, h => by simp [ur_slots] at h
  | w :: as, o, i, v, h => by
    simp only [List.map_cons, lv_args, ur_cv_cat had]
    simp only [ur_slots] at h
    by_cases hc : w.category = 2
    · rw [if_pos hc]
      simp only [hc, beq_self_eq_true, cond_true] at h
      match i, h with
      | 0, h => simp at h; rw [h]; exact List.mem_cons_self
      | 1, h => simp at h
      | i + 2, h =>
        have := ur_slots_in b0 ad had as (o + 2) i v (by simpa using h)
        rw [show o + (i + 2) = o + 2 + i by omega]
        exact List.mem_cons_of_mem _ this
    · rw [if_neg hc]
      simp only [beq_eq_false_iff_ne.mpr hc, cond_false] at h
      match i, h with
      | 0, h => simp at h; rw [h]; exact List.mem_cons_self
      | i + 1, h =>
        have := ur_slots_in b0 ad had as (o + 1) i v (by simpa using h)
        rw [show o + (i + 1) = o + 1 + i by omega]
        exact List.mem_cons_of_mem _ this
theorem ur_slots_len (b0 : Nat) (ad : Nat → Value) (had : ur_ado ad) : ∀ as : List Value, (lg_sl (as.map (ur_cv b0 ad))).length = (ur_slots as).length
  | [] => rfl
  | w :: as => by
    have ih := ur_slots_len b0 ad had as
    simp only [lg_sl] at ih
    simp only [lg_sl, List.map_cons, List.flatMap_cons, List.length_append, ur_cv_cat had, ur_slots, ih]
    by_cases hc : w.category = 2
    · simp [hc]; omega
    · rw [if_neg hc, beq_eq_false_iff_ne.mpr hc]
      simp
      omega
theorem ur_pad_at {n : Nat} {l : List (Option Value)} {i : Nat} {v : Value} (h : (ur_pad n l)[i]? = some (some v)) : l[i]? = some (some v) := by
  unfold ur_pad at h
  by_cases hi : i < l.length
  · rwa [List.getElem?_append_left hi] at h
  · rw [List.getElem?_append_right (by omega)] at h
    have := List.eq_of_mem_replicate (List.mem_of_getElem? h)
    cases this
/-- a method's contract, out of its run -/
theorem ur_met {l : Launch} {G : Nat → ur_P} {N : Nat → ur_NI} {D : va_G} {cas : Nat → ClassId} {b0 : Nat} {ad : Nat → Value} {n d y sz : Nat} {as : List Value} {m : ur_M} {res : ur_V} (had : ur_ado ad) (IH : ur_IH l G N D cas b0 ad n) (hM : ur_okM G N y) (hex : ur_ex G n d y (ur_ent (G y) as m) = some res) (hlen : (ur_slots as).length ≤ (G y).2.2.1) (hb0 : b0 ≤ sz) (hm : m.1.length ≤ 1000) (hZ : sz = b0 + m.1.length ∨ res.2.1.length = m.1.length) : Met l (N y).1 (Cond.code (N y).1 (N y).2.1 (G y).2.2.1 (N y).2.2 :: ur_T) ({ frames := d + 1, cells := res.2.1.length - m.1.length, slots := ur_sl res.2.1 - ur_sl m.1, locals := 64 * (d + 1) }) (va_Pc (as.map (ur_cv b0 ad)) (fun U => U.heap.size = sz ∧ va_P D vwCl (ur_ws b0 cas m) U.heap ∧ va_K D vwCl (ur_tys cas) U ∧ ur_Old ad (va_A (ur_ws b0 cas m) sz) U)) (ur_Qc D cas b0 (va_A (ur_ws b0 cas m) sz) (N y).2.2 res) (res.2.1.length - m.1.length) (ur_sl res.2.1 - ur_sl m.1) (va_A (ur_ws b0 cas m) sz) := by
  have hgr := ur_grow G n d y _ res hex
  refine Met.ofW (cc := (N y).2.1) (maxL := (G y).2.2.1) (ret := (N y).2.2) hM.2.1 rfl ?_
  intro p e s mid args below meth c s₁ B hml hv
  obtain ⟨rfl, hsz, hP, hK, hO⟩ := hv
  have hts := atoms_spec (ws := Cond.code (N y).1 (N y).2.1 (G y).2.2.1 (N y).2.2 :: ur_T) B.pre
  have hown : s.vm.findClass (N y).1.cls = some mid.cls := findClass_of_methodNamed B.named
  have hin : meth.name = (N y).1.name := (name_of_methodNamed B.named B.method).1
  have hl := lv_entry (as.map (ur_cv b0 ad)) (n := (G y).2.2.1) (by rw [ur_slots_len b0 ad had]; exact hlen)
  rw [lg_entry_eq]
  generalize (lg_sl (as.map (ur_cv b0 ad)) ++ List.replicate ((G y).2.2.1 - (lg_sl (as.map (ur_cv b0 ad))).length) Slot.unset).toArray = ls at hl ⊢
  have hpl : (ur_pad (G y).2.2.1 (ur_slots as)).length = (G y).2.2.1 := by simp [ur_pad]; omega
  have hl' : ur_has ls b0 ad (ur_pad (G y).2.2.1 (ur_slots as)) := by
    refine ⟨by rw [hpl]; exact hl.1, hl.2.1, fun q hq => hl.2.2 q ?_⟩
    obtain ⟨v, h1, h2⟩ := ur_asc_mem.mp hq
    have := ur_slots_in b0 ad had as 0 q.1 v (ur_pad_at h1)
    rw [Nat.zero_add, ← h2] at this
    exact this
  have hg1 : m.1.length ≤ res.2.1.length := hgr.1
  have hg2 : ur_sl m.1 ≤ ur_sl res.2.1 := hgr.2
  have key := IH d y _ res hex hM p e (headSpec (Cond.code (N y).1 (N y).2.1 (G y).2.2.1 (N y).2.2 :: ur_T) ({ frames := d + 1, cells := res.2.1.length - m.1.length, slots := ur_sl res.2.1 - ur_sl m.1, locals := 64 * (d + 1) })).room s mid ((as.map (ur_cv b0 ad)).toArray) below meth c (va_A (ur_ws b0 cas m) sz) m.1.length (ur_sl m.1)
    ⟨B.exec, B.bytes, hml, hown, fun w hw => hts w (List.mem_cons_of_mem _ hw), B.returns, B.notSynchronized, hin, hK, hO, fun q hq => Or.inr (by rw [← hsz]; exact hq), fun z hz => by
      rcases hz with ⟨k, w, hk⟩ | hz
      · have lk : k < m.1.length := by have := (List.getElem?_eq_some_iff.mp hk).1; simpa [ur_ws] using this
        rw [ur_ws_at lk] at hk
        cases hk
        exact Nat.le_add_right _ _
      · exact Nat.le_trans hb0 hz, by rw [hsz]; exact hb0, Nat.le_refl _, Nat.le_refl _⟩ (by rw [hsz]; exact hZ) ⟨by show _ ≤ (res.2.1.length - m.1.length) + _; omega, by show _ ≤ (ur_sl res.2.1 - ur_sl m.1) + _; omega⟩
  exact key ls s.heap [] 0 0 hl' hpl hP (ur_D (fun b hb => va_A.in (ur_ws_at hb))) va_S.rf hm (Nat.zero_add _) (Nat.zero_add _)

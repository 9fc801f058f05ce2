/-! ONE STEP OF THE PURE MACHINE IS A STEP OF THE MACHINE: instructions that touch no cell -/
def ur_T : List Cond := lw_tbl.filter goodWord
def ur_Wg (p : Program) (l : Launch) (e : Env) (R : Room) (s : State) (mid : MethodId) (args : Array Value) (below : List Frame) (meth : Method) (c : Code) (D : va_G) (cas : Nat → ClassId) (b0 : Nat) (ad : Nat → Value) (A : Nat → Prop) (nL L0 S0 : Nat) (Q : State → Prop) (x : ur_S) : Prop :=
  ∀ (lsr : Array Slot) (H : Heap) (locs : List Loc) (cells slots : Nat), ur_has lsr b0 ad x.2.1 → x.2.1.length = nL → va_P D vwCl (ur_ws b0 cas x.2.2.2) H → va_D A (ur_ws b0 cas x.2.2.2) → va_S A s.heap H locs → x.2.2.2.1.length ≤ 1000 → cells + L0 = x.2.2.2.1.length → slots + S0 = ur_sl x.2.2.2.1 → W p l e R s mid args below meth c H locs cells slots Q (F0 mid x.1 lsr (x.2.2.1.map (ur_cv b0 ad)))
section URS
variable {p : Program} {l : Launch} {e : Env} {R : Room} {s : State} {mid : MethodId} {args : Array Value} {below : List Frame} {meth : Method} {c : Code} {D : va_G} {cas : Nat → ClassId} {b0 : Nat} {ad : Nat → Value} {A : Nat → Prop} {nL L0 S0 : Nat} {Q : State → Prop}
variable {cc : ByteArray} {own : String} {pc pc' n x : Nat} {v : Int32} {ls ls' : List (Option Value)} {st st' : List Value} {m m' : ur_M} {self : ur_S → Option ur_V} {call : Nat → List Value → ur_M → Option ur_V} {res : ur_V}
theorem ur_s_nx (row : ∀ (lsr : Array Slot) (H : Heap) (locs : List Loc) (cells slots : Nat), ur_has lsr b0 ad ls → va_P D vwCl (ur_ws b0 cas m) H → va_S A s.heap H locs → W p l e R s mid args below meth c H locs cells slots Q (F0 mid pc' lsr (st'.map (ur_cv b0 ad))) → W p l e R s mid args below meth c H locs cells slots Q (F0 mid pc lsr (st.map (ur_cv b0 ad)))) (hs : ur_Wg p l e R s mid args below meth c D cas b0 ad A nL L0 S0 Q ((pc', ls, st', m))) : ur_Wg p l e R s mid args below meth c D cas b0 ad A nL L0 S0 Q ((pc, ls, st, m)) :=
  fun lsr H locs cells slots hl h0 hP hD hS h1 h2 h3 => row lsr H locs cells slots hl hP hS (hs lsr H locs cells slots hl h0 hP hD hS h1 h2 h3)
theorem ur_s_st (hlen : ls'.length = ls.length) (row : ∀ (lsr : Array Slot) (H : Heap) (locs : List Loc) (cells slots : Nat), ur_has lsr b0 ad ls → (∀ lsr' : Array Slot, ur_has lsr' b0 ad ls' → W p l e R s mid args below meth c H locs cells slots Q (F0 mid pc' lsr' (st'.map (ur_cv b0 ad)))) → W p l e R s mid args below meth c H locs cells slots Q (F0 mid pc lsr (st.map (ur_cv b0 ad)))) (hs : ur_Wg p l e R s mid args below meth c D cas b0 ad A nL L0 S0 Q ((pc', ls', st', m))) : ur_Wg p l e R s mid args below meth c D cas b0 ad A nL L0 S0 Q ((pc, ls, st, m)) :=
  fun lsr H locs cells slots hl h0 hP hD hS h1 h2 h3 => row lsr H locs cells slots hl (fun lsr' hl' => hs lsr' H locs cells slots hl' (hlen.trans h0) hP hD hS h1 h2 h3)
theorem ur_s_wr (hsh : m'.1 = m.1) (row : ∀ (lsr : Array Slot) (H : Heap) (locs : List Loc) (cells slots : Nat), ur_has lsr b0 ad ls → va_P D vwCl (ur_ws b0 cas m) H → va_D A (ur_ws b0 cas m) → va_S A s.heap H locs → m.1.length ≤ 1000 → (∀ (H1 : Heap) (locs1 : List Loc), va_P D vwCl (ur_ws b0 cas m') H1 → va_D A (ur_ws b0 cas m') → va_S A s.heap H1 locs1 → W p l e R s mid args below meth c H1 locs1 cells slots Q (F0 mid pc' lsr (st'.map (ur_cv b0 ad)))) → W p l e R s mid args below meth c H locs cells slots Q (F0 mid pc lsr (st.map (ur_cv b0 ad)))) (hs : ur_Wg p l e R s mid args below meth c D cas b0 ad A nL L0 S0 Q ((pc', ls, st', m'))) : ur_Wg p l e R s mid args below meth c D cas b0 ad A nL L0 S0 Q ((pc, ls, st, m)) :=
  fun lsr H locs cells slots hl h0 hP hD hS h1 h2 h3 => row lsr H locs cells slots hl hP hD hS h1 (fun H1 locs1 hP1 hD1 hS1 => hs lsr H1 locs1 cells slots hl h0 hP1 hD1 hS1 (by show m'.1.length ≤ 1000; rw [hsh]; exact h1) (by show _ = m'.1.length; rw [hsh]; exact h2) (by show _ = ur_sl m'.1; rw [hsh]; exact h3))
-- constants
theorem ur_i_iconst (hx : p.tables.exec = Jvm.exec) (hb : c.code = cc) {k : Int} (hdg : decode cc pc = .ok (.iconst k, 1)) (hv : Int32.ofInt k = v) (hs : ur_Wg p l e R s mid args below meth c D cas b0 ad A nL L0 S0 Q ((pc + 1, ls, .int v :: st, m))) : ur_Wg p l e R s mid args below meth c D cas b0 ad A nL L0 S0 Q ((pc, ls, st, m)) :=
  ur_s_nx (fun lsr H locs cells slots _ _ _ k => lv_iconst hx hb hdg hv k) hs
theorem ur_i_bipush (hx : p.tables.exec = Jvm.exec) (hb : c.code = cc) {k : Int} (hdg : decode cc pc = .ok (.bipush k, 2)) (hv : (Int8.ofInt k).toInt32 = v) (hs : ur_Wg p l e R s mid args below meth c D cas b0 ad A nL L0 S0 Q ((pc + 2, ls, .int v :: st, m))) : ur_Wg p l e R s mid args below meth c D cas b0 ad A nL L0 S0 Q ((pc, ls, st, m)) :=
  ur_s_nx (fun lsr H locs cells slots _ _ _ k => lv_bipush hx hb hdg hv k) hs
theorem ur_i_sipush (hx : p.tables.exec = Jvm.exec) (hb : c.code = cc) {k : Int} (hdg : decode cc pc = .ok (.sipush k, 3)) (hv : (Int16.ofInt k).toInt32 = v) (hs : ur_Wg p l e R s mid args below meth c D cas b0 ad A nL L0 S0 Q ((pc + 3, ls, .int v :: st, m))) : ur_Wg p l e R s mid args below meth c D cas b0 ad A nL L0 S0 Q ((pc, ls, st, m)) :=
  ur_s_nx (fun lsr H locs cells slots _ _ _ k => lv_sipush hx hb hdg hv k) hs
theorem ur_i_lconst (hx : p.tables.exec = Jvm.exec) (hb : c.code = cc) {k : Fin 2} {v : Int64} (hdg : decode cc pc = .ok (.lconst k, 1)) (hv : Int64.ofNat (k : Nat) = v) (hs : ur_Wg p l e R s mid args below meth c D cas b0 ad A nL L0 S0 Q ((pc + 1, ls, .long v :: st, m))) : ur_Wg p l e R s mid args below meth c D cas b0 ad A nL L0 S0 Q ((pc, ls, st, m)) :=
  ur_s_nx (fun lsr H locs cells slots _ _ _ k => lv_lconst hx hb hdg hv k) hs
theorem ur_i_ldc (hx : p.tables.exec = Jvm.exec) (hb : c.code = cc) {k : Nat} (hown : s.vm.findClass own = some mid.cls) (hc : (Jvm.Cond.constant own k v).before args s = true) (hdg : decode cc pc = .ok (.ldc k, 2)) (hs : ur_Wg p l e R s mid args below meth c D cas b0 ad A nL L0 S0 Q ((pc + 2, ls, .int v :: st, m))) : ur_Wg p l e R s mid args below meth c D cas b0 ad A nL L0 S0 Q ((pc, ls, st, m)) :=
  ur_s_nx (fun lsr H locs cells slots _ _ _ k => lv_ldc hx hb hown hc hdg k) hs
theorem ur_i_ldc_w (hx : p.tables.exec = Jvm.exec) (hb : c.code = cc) {k : Nat} (hown : s.vm.findClass own = some mid.cls) (hc : (Jvm.Cond.constant own k v).before args s = true) (hdg : decode cc pc = .ok (.ldc_w k, 3)) (hs : ur_Wg p l e R s mid args below meth c D cas b0 ad A nL L0 S0 Q ((pc + 3, ls, .int v :: st, m))) : ur_Wg p l e R s mid args below meth c D cas b0 ad A nL L0 S0 Q ((pc, ls, st, m)) :=
  ur_s_nx (fun lsr H locs cells slots _ _ _ k => lv_ldcw hx hb hown hc hdg k) hs
theorem ur_i_ldc2 (hx : p.tables.exec = Jvm.exec) (hb : c.code = cc) {k : Nat} {v : Int64} (hown : s.vm.findClass own = some mid.cls) (hc : (Jvm.Cond.constantLong own k v).before args s = true) (hdg : decode cc pc = .ok (.ldc2_w k, 3)) (hs : ur_Wg p l e R s mid args below meth c D cas b0 ad A nL L0 S0 Q ((pc + 3, ls, .long v :: st, m))) : ur_Wg p l e R s mid args below meth c D cas b0 ad A nL L0 S0 Q ((pc, ls, st, m)) :=
  ur_s_nx (fun lsr H locs cells slots _ _ _ k => lv_ldc2 hx hb hown hc hdg k) hs
-- locals
theorem ur_i_iload_n (hx : p.tables.exec = Jvm.exec) (hb : c.code = cc) {k : Fin 4} {w : Int32} (hdg : decode cc pc = .ok (.iload_n k, 1)) (hw : ur_ld ls k = some (.int w)) (hs : ur_Wg p l e R s mid args below meth c D cas b0 ad A nL L0 S0 Q ((pc + 1, ls, .int w :: st, m))) : ur_Wg p l e R s mid args below meth c D cas b0 ad A nL L0 S0 Q ((pc, ls, st, m)) :=
  ur_s_nx (fun lsr H locs cells slots hl _ _ k => lv_iload_n hx hb hdg rfl (ur_has_at hl hw) k) hs
theorem ur_i_iload (hx : p.tables.exec = Jvm.exec) (hb : c.code = cc) {k : Nat} {w : Int32} (hdg : decode cc pc = .ok (.iload k, 2)) (hw : ur_ld ls k = some (.int w)) (hs : ur_Wg p l e R s mid args below meth c D cas b0 ad A nL L0 S0 Q ((pc + 2, ls, .int w :: st, m))) : ur_Wg p l e R s mid args below meth c D cas b0 ad A nL L0 S0 Q ((pc, ls, st, m)) :=
  ur_s_nx (fun lsr H locs cells slots hl _ _ k => lv_iload hx hb hdg (ur_has_at hl hw) k) hs
theorem ur_i_lload_n (hx : p.tables.exec = Jvm.exec) (hb : c.code = cc) {k : Fin 4} {w : Int64} (hdg : decode cc pc = .ok (.lload_n k, 1)) (hw : ur_ld ls k = some (.long w)) (hs : ur_Wg p l e R s mid args below meth c D cas b0 ad A nL L0 S0 Q ((pc + 1, ls, .long w :: st, m))) : ur_Wg p l e R s mid args below meth c D cas b0 ad A nL L0 S0 Q ((pc, ls, st, m)) :=
  ur_s_nx (fun lsr H locs cells slots hl _ _ k => lv_lload_n hx hb hdg rfl (ur_has_at hl hw) k) hs
theorem ur_i_lload (hx : p.tables.exec = Jvm.exec) (hb : c.code = cc) {k : Nat} {w : Int64} (hdg : decode cc pc = .ok (.lload k, 2)) (hw : ur_ld ls k = some (.long w)) (hs : ur_Wg p l e R s mid args below meth c D cas b0 ad A nL L0 S0 Q ((pc + 2, ls, .long w :: st, m))) : ur_Wg p l e R s mid args below meth c D cas b0 ad A nL L0 S0 Q ((pc, ls, st, m)) :=
  ur_s_nx (fun lsr H locs cells slots hl _ _ k => lv_lload hx hb hdg (ur_has_at hl hw) k) hs
theorem ur_cv_ref (had : ur_ado ad) (w : Nat) : ur_cv b0 ad (.ref w) = .null ∨ ∃ q, ur_cv b0 ad (.ref w) = .ref q := by
  simp only [ur_cv]
  split
  · exact Or.inr ⟨_, rfl⟩
  · exact had _
theorem ur_i_aload_n (hx : p.tables.exec = Jvm.exec) (hb : c.code = cc) (had : ur_ado ad) {k : Fin 4} {w : Nat} (hdg : decode cc pc = .ok (.aload_n k, 1)) (hw : ur_ld ls k = some (.ref w)) (hs : ur_Wg p l e R s mid args below meth c D cas b0 ad A nL L0 S0 Q ((pc + 1, ls, .ref w :: st, m))) : ur_Wg p l e R s mid args below meth c D cas b0 ad A nL L0 S0 Q ((pc, ls, st, m)) :=
  ur_s_nx (fun lsr H locs cells slots hl _ _ k => by
    have h1 := ur_has_at hl hw
    rw [List.map_cons] at k
    rcases ur_cv_ref (b0 := b0) had w with h | ⟨q, h⟩ <;> rw [h] at h1 k
    · exact lv_aload_nN hx hb hdg rfl h1 k
    · exact lv_aload_n hx hb hdg rfl h1 k) hs
theorem ur_i_aload (hx : p.tables.exec = Jvm.exec) (hb : c.code = cc) (had : ur_ado ad) {k : Nat} {w : Nat} (hdg : decode cc pc = .ok (.aload k, 2)) (hw : ur_ld ls k = some (.ref w)) (hs : ur_Wg p l e R s mid args below meth c D cas b0 ad A nL L0 S0 Q ((pc + 2, ls, .ref w :: st, m))) : ur_Wg p l e R s mid args below meth c D cas b0 ad A nL L0 S0 Q ((pc, ls, st, m)) :=
  ur_s_nx (fun lsr H locs cells slots hl _ _ k => by
    have h1 := ur_has_at hl hw
    rw [List.map_cons] at k
    rcases ur_cv_ref (b0 := b0) had w with h | ⟨q, h⟩ <;> rw [h] at h1 k
    · exact lv_aloadN hx hb hdg h1 k
    · exact lv_aload hx hb hdg h1 k) hs
theorem ur_st1_len (j : Nat) (w : Value) : (ur_st1 ls j w).length = ls.length := by simp [ur_st1, ur_clr_len]
theorem ur_st2_len (j : Nat) (w : Value) : (ur_st2 ls j w).length = ls.length := by simp [ur_st2, ur_clr_len]
theorem ur_i_istore_n (hx : p.tables.exec = Jvm.exec) (hb : c.code = cc) (had : ur_ado ad) {k : Fin 4} {w : Int32} (hdg : decode cc pc = .ok (.istore_n k, 1)) (hk : (k : Nat) < ls.length) (hs : ur_Wg p l e R s mid args below meth c D cas b0 ad A nL L0 S0 Q ((pc + 1, ur_st1 ls k (.int w), st, m))) : ur_Wg p l e R s mid args below meth c D cas b0 ad A nL L0 S0 Q ((pc, ls, .int w :: st, m)) :=
  ur_s_st (ur_st1_len _ _) (fun lsr H locs cells slots hl kk => lv_istore_n hx hb hdg rfl hl hk rfl (fun ls' h => kk ls' (ur_has_st1 had h))) hs
theorem ur_i_istore (hx : p.tables.exec = Jvm.exec) (hb : c.code = cc) (had : ur_ado ad) {k : Nat} {w : Int32} (hdg : decode cc pc = .ok (.istore k, 2)) (hk : k < ls.length) (hs : ur_Wg p l e R s mid args below meth c D cas b0 ad A nL L0 S0 Q ((pc + 2, ur_st1 ls k (.int w), st, m))) : ur_Wg p l e R s mid args below meth c D cas b0 ad A nL L0 S0 Q ((pc, ls, .int w :: st, m)) :=
  ur_s_st (ur_st1_len _ _) (fun lsr H locs cells slots hl kk => lv_istore hx hb hdg hl hk rfl (fun ls' h => kk ls' (ur_has_st1 had h))) hs
theorem ur_i_lstore_n (hx : p.tables.exec = Jvm.exec) (hb : c.code = cc) (had : ur_ado ad) {k : Fin 4} {w : Int64} (hdg : decode cc pc = .ok (.lstore_n k, 1)) (hk : (k : Nat) + 1 < ls.length) (hs : ur_Wg p l e R s mid args below meth c D cas b0 ad A nL L0 S0 Q ((pc + 1, ur_st2 ls k (.long w), st, m))) : ur_Wg p l e R s mid args below meth c D cas b0 ad A nL L0 S0 Q ((pc, ls, .long w :: st, m)) :=
  ur_s_st (ur_st2_len _ _) (fun lsr H locs cells slots hl kk => lv_lstore_n hx hb hdg rfl hl hk rfl (fun ls' h => kk ls' (ur_has_st2 had h))) hs
theorem ur_i_lstore (hx : p.tables.exec = Jvm.exec) (hb : c.code = cc) (had : ur_ado ad) {k : Nat} {w : Int64} (hdg : decode cc pc = .ok (.lstore k, 2)) (hk : k + 1 < ls.length) (hs : ur_Wg p l e R s mid args below meth c D cas b0 ad A nL L0 S0 Q ((pc + 2, ur_st2 ls k (.long w), st, m))) : ur_Wg p l e R s mid args below meth c D cas b0 ad A nL L0 S0 Q ((pc, ls, .long w :: st, m)) :=
  ur_s_st (ur_st2_len _ _) (fun lsr H locs cells slots hl kk => lv_lstore hx hb hdg hl hk rfl (fun ls' h => kk ls' (ur_has_st2 had h))) hs
theorem ur_i_astore_n (hx : p.tables.exec = Jvm.exec) (hb : c.code = cc) (had : ur_ado ad) {k : Fin 4} {w : Nat} (hdg : decode cc pc = .ok (.astore_n k, 1)) (hk : (k : Nat) < ls.length) (hs : ur_Wg p l e R s mid args below meth c D cas b0 ad A nL L0 S0 Q ((pc + 1, ur_st1 ls k (.ref w), st, m))) : ur_Wg p l e R s mid args below meth c D cas b0 ad A nL L0 S0 Q ((pc, ls, .ref w :: st, m)) :=
  ur_s_st (ur_st1_len _ _) (fun lsr H locs cells slots hl kk => by
    rw [List.map_cons]
    have e1 : ∀ ls', lv_has ls' ls.length ((k, ur_cv b0 ad (.ref w)) :: (ur_asc b0 ad ls).filter (fun q => !(q.1 == (k : Nat)) && !(q.1 + 1 == (k : Nat) && q.2.category == 2))) → _ := fun ls' h => kk ls' (ur_has_st1 had h)
    rcases ur_cv_ref (b0 := b0) had w with h | ⟨q, h⟩ <;> rw [h] at e1 ⊢
    · exact lv_astore_nN hx hb hdg rfl hl hk rfl e1
    · exact lv_astore_n hx hb hdg rfl hl hk rfl e1) hs
theorem ur_i_astore (hx : p.tables.exec = Jvm.exec) (hb : c.code = cc) (had : ur_ado ad) {k : Nat} {w : Nat} (hdg : decode cc pc = .ok (.astore k, 2)) (hk : k < ls.length) (hs : ur_Wg p l e R s mid args below meth c D cas b0 ad A nL L0 S0 Q ((pc + 2, ur_st1 ls k (.ref w), st, m))) : ur_Wg p l e R s mid args below meth c D cas b0 ad A nL L0 S0 Q ((pc, ls, .ref w :: st, m)) :=
  ur_s_st (ur_st1_len _ _) (fun lsr H locs cells slots hl kk => by
    rw [List.map_cons]
    have e1 : ∀ ls', lv_has ls' ls.length ((k, ur_cv b0 ad (.ref w)) :: (ur_asc b0 ad ls).filter (fun q => !(q.1 == k) && !(q.1 + 1 == k && q.2.category == 2))) → _ := fun ls' h => kk ls' (ur_has_st1 had h)
    rcases ur_cv_ref (b0 := b0) had w with h | ⟨q, h⟩ <;> rw [h] at e1 ⊢
    · exact lv_astoreN hx hb hdg hl hk rfl e1
    · exact lv_astore hx hb hdg hl hk rfl e1) hs
theorem ur_i_iinc (hx : p.tables.exec = Jvm.exec) (hb : c.code = cc) (had : ur_ado ad) {j : Nat} {k : Int} {w : Int32} (hdg : decode cc pc = .ok (.iinc j k, 3)) (hw : ur_ld ls j = some (.int w)) (hv : Int32.ofInt k = v) (hk : j < ls.length) (hs : ur_Wg p l e R s mid args below meth c D cas b0 ad A nL L0 S0 Q ((pc + 3, ur_st1 ls j (.int (w + v)), st, m))) : ur_Wg p l e R s mid args below meth c D cas b0 ad A nL L0 S0 Q ((pc, ls, st, m)) :=
  ur_s_st (ur_st1_len _ _) (fun lsr H locs cells slots hl kk => by
    obtain ⟨q, hq⟩ := List.getElem?_of_mem (ur_asc_mem (b0 := b0) (ad := ad) (q := (j, .int w)) |>.mpr ⟨.int w, ur_ld_some hw, rfl⟩)
    exact lv_iinc (v := w + v) hx hb hdg hl hq (by rw [hv]) hk rfl (fun ls' h => kk ls' (ur_has_st1 (v := .int (w + v)) had h))) hs
-- arithmetic
theorem ur_i_iadd (hx : p.tables.exec = Jvm.exec) (hb : c.code = cc) (hdg : decode cc pc = .ok (.iadd, 1)) (hs : ∀ s', self s' = some res → ur_Wg p l e R s mid args below meth c D cas b0 ad A nL L0 S0 Q (s')) (h : ur_do self call (ur_bi (fun a b => a + b) pc ls st m) = some res) : ur_Wg p l e R s mid args below meth c D cas b0 ad A nL L0 S0 Q ((pc, ls, st, m)) := by
  unfold ur_bi at h
  split at h
  · exact ur_s_nx (fun lsr H locs cells slots _ _ _ k => lv_iadd hx hb hdg  k) (hs _ h)
  · cases h
theorem ur_i_isub (hx : p.tables.exec = Jvm.exec) (hb : c.code = cc) (hdg : decode cc pc = .ok (.isub, 1)) (hs : ∀ s', self s' = some res → ur_Wg p l e R s mid args below meth c D cas b0 ad A nL L0 S0 Q (s')) (h : ur_do self call (ur_bi (fun a b => a - b) pc ls st m) = some res) : ur_Wg p l e R s mid args below meth c D cas b0 ad A nL L0 S0 Q ((pc, ls, st, m)) := by
  unfold ur_bi at h
  split at h
  · exact ur_s_nx (fun lsr H locs cells slots _ _ _ k => lv_isub hx hb hdg  k) (hs _ h)
  · cases h
theorem ur_i_imul (hx : p.tables.exec = Jvm.exec) (hb : c.code = cc) (hdg : decode cc pc = .ok (.imul, 1)) (hs : ∀ s', self s' = some res → ur_Wg p l e R s mid args below meth c D cas b0 ad A nL L0 S0 Q (s')) (h : ur_do self call (ur_bi (fun a b => a * b) pc ls st m) = some res) : ur_Wg p l e R s mid args below meth c D cas b0 ad A nL L0 S0 Q ((pc, ls, st, m)) := by
  unfold ur_bi at h
  split at h
  · exact ur_s_nx (fun lsr H locs cells slots _ _ _ k => lv_imul hx hb hdg  k) (hs _ h)
  · cases h
theorem ur_i_iand (hx : p.tables.exec = Jvm.exec) (hb : c.code = cc) (hdg : decode cc pc = .ok (.iand, 1)) (hs : ∀ s', self s' = some res → ur_Wg p l e R s mid args below meth c D cas b0 ad A nL L0 S0 Q (s')) (h : ur_do self call (ur_bi (fun a b => a &&& b) pc ls st m) = some res) : ur_Wg p l e R s mid args below meth c D cas b0 ad A nL L0 S0 Q ((pc, ls, st, m)) := by
  unfold ur_bi at h
  split at h
  · exact ur_s_nx (fun lsr H locs cells slots _ _ _ k => lv_iand hx hb hdg  k) (hs _ h)
  · cases h
theorem ur_i_ior (hx : p.tables.exec = Jvm.exec) (hb : c.code = cc) (hdg : decode cc pc = .ok (.ior, 1)) (hs : ∀ s', self s' = some res → ur_Wg p l e R s mid args below meth c D cas b0 ad A nL L0 S0 Q (s')) (h : ur_do self call (ur_bi (fun a b => a ||| b) pc ls st m) = some res) : ur_Wg p l e R s mid args below meth c D cas b0 ad A nL L0 S0 Q ((pc, ls, st, m)) := by
  unfold ur_bi at h
  split at h
  · exact ur_s_nx (fun lsr H locs cells slots _ _ _ k => lv_ior hx hb hdg  k) (hs _ h)
  · cases h
theorem ur_i_ixor (hx : p.tables.exec = Jvm.exec) (hb : c.code = cc) (hdg : decode cc pc = .ok (.ixor, 1)) (hs : ∀ s', self s' = some res → ur_Wg p l e R s mid args below meth c D cas b0 ad A nL L0 S0 Q (s')) (h : ur_do self call (ur_bi (fun a b => a ^^^ b) pc ls st m) = some res) : ur_Wg p l e R s mid args below meth c D cas b0 ad A nL L0 S0 Q ((pc, ls, st, m)) := by
  unfold ur_bi at h
  split at h
  · exact ur_s_nx (fun lsr H locs cells slots _ _ _ k => lv_ixor hx hb hdg  k) (hs _ h)
  · cases h
theorem ur_i_ishl (hx : p.tables.exec = Jvm.exec) (hb : c.code = cc) (hdg : decode cc pc = .ok (.ishl, 1)) (hs : ∀ s', self s' = some res → ur_Wg p l e R s mid args below meth c D cas b0 ad A nL L0 S0 Q (s')) (h : ur_do self call (ur_bi (fun a b => a <<< (b &&& 31)) pc ls st m) = some res) : ur_Wg p l e R s mid args below meth c D cas b0 ad A nL L0 S0 Q ((pc, ls, st, m)) := by
  unfold ur_bi at h
  split at h
  · exact ur_s_nx (fun lsr H locs cells slots _ _ _ k => lv_ishl hx hb hdg  k) (hs _ h)
  · cases h
theorem ur_i_ishr (hx : p.tables.exec = Jvm.exec) (hb : c.code = cc) (hdg : decode cc pc = .ok (.ishr, 1)) (hs : ∀ s', self s' = some res → ur_Wg p l e R s mid args below meth c D cas b0 ad A nL L0 S0 Q (s')) (h : ur_do self call (ur_bi (fun a b => a >>> (b &&& 31)) pc ls st m) = some res) : ur_Wg p l e R s mid args below meth c D cas b0 ad A nL L0 S0 Q ((pc, ls, st, m)) := by
  unfold ur_bi at h
  split at h
  · exact ur_s_nx (fun lsr H locs cells slots _ _ _ k => lv_ishr hx hb hdg  k) (hs _ h)
  · cases h
theorem ur_i_iushr (hx : p.tables.exec = Jvm.exec) (hb : c.code = cc) (hdg : decode cc pc = .ok (.iushr, 1)) (hs : ∀ s', self s' = some res → ur_Wg p l e R s mid args below meth c D cas b0 ad A nL L0 S0 Q (s')) (h : ur_do self call (ur_bi (fun a b => (a.toUInt32 >>> (b.toUInt32 &&& Int32.toUInt32 31)).toInt32) pc ls st m) = some res) : ur_Wg p l e R s mid args below meth c D cas b0 ad A nL L0 S0 Q ((pc, ls, st, m)) := by
  unfold ur_bi at h
  split at h
  · exact ur_s_nx (fun lsr H locs cells slots _ _ _ k => lv_iushr hx hb hdg rfl k) (hs _ h)
  · cases h
theorem ur_i_ladd (hx : p.tables.exec = Jvm.exec) (hb : c.code = cc) (hdg : decode cc pc = .ok (.ladd, 1)) (hs : ∀ s', self s' = some res → ur_Wg p l e R s mid args below meth c D cas b0 ad A nL L0 S0 Q (s')) (h : ur_do self call (ur_bl (fun a b => a + b) pc ls st m) = some res) : ur_Wg p l e R s mid args below meth c D cas b0 ad A nL L0 S0 Q ((pc, ls, st, m)) := by
  unfold ur_bl at h
  split at h
  · exact ur_s_nx (fun lsr H locs cells slots _ _ _ k => lv_ladd hx hb hdg k) (hs _ h)
  · cases h
theorem ur_i_lsub (hx : p.tables.exec = Jvm.exec) (hb : c.code = cc) (hdg : decode cc pc = .ok (.lsub, 1)) (hs : ∀ s', self s' = some res → ur_Wg p l e R s mid args below meth c D cas b0 ad A nL L0 S0 Q (s')) (h : ur_do self call (ur_bl (fun a b => a - b) pc ls st m) = some res) : ur_Wg p l e R s mid args below meth c D cas b0 ad A nL L0 S0 Q ((pc, ls, st, m)) := by
  unfold ur_bl at h
  split at h
  · exact ur_s_nx (fun lsr H locs cells slots _ _ _ k => lv_lsub hx hb hdg k) (hs _ h)
  · cases h
theorem ur_i_lmul (hx : p.tables.exec = Jvm.exec) (hb : c.code = cc) (hdg : decode cc pc = .ok (.lmul, 1)) (hs : ∀ s', self s' = some res → ur_Wg p l e R s mid args below meth c D cas b0 ad A nL L0 S0 Q (s')) (h : ur_do self call (ur_bl (fun a b => a * b) pc ls st m) = some res) : ur_Wg p l e R s mid args below meth c D cas b0 ad A nL L0 S0 Q ((pc, ls, st, m)) := by
  unfold ur_bl at h
  split at h
  · exact ur_s_nx (fun lsr H locs cells slots _ _ _ k => lv_lmul hx hb hdg k) (hs _ h)
  · cases h
theorem ur_i_land (hx : p.tables.exec = Jvm.exec) (hb : c.code = cc) (hdg : decode cc pc = .ok (.land, 1)) (hs : ∀ s', self s' = some res → ur_Wg p l e R s mid args below meth c D cas b0 ad A nL L0 S0 Q (s')) (h : ur_do self call (ur_bl (fun a b => a &&& b) pc ls st m) = some res) : ur_Wg p l e R s mid args below meth c D cas b0 ad A nL L0 S0 Q ((pc, ls, st, m)) := by
  unfold ur_bl at h
  split at h
  · exact ur_s_nx (fun lsr H locs cells slots _ _ _ k => lv_land hx hb hdg k) (hs _ h)
  · cases h
theorem ur_i_lor (hx : p.tables.exec = Jvm.exec) (hb : c.code = cc) (hdg : decode cc pc = .ok (.lor, 1)) (hs : ∀ s', self s' = some res → ur_Wg p l e R s mid args below meth c D cas b0 ad A nL L0 S0 Q (s')) (h : ur_do self call (ur_bl (fun a b => a ||| b) pc ls st m) = some res) : ur_Wg p l e R s mid args below meth c D cas b0 ad A nL L0 S0 Q ((pc, ls, st, m)) := by
  unfold ur_bl at h
  split at h
  · exact ur_s_nx (fun lsr H locs cells slots _ _ _ k => lv_lor hx hb hdg k) (hs _ h)
  · cases h
theorem ur_i_ineg (hx : p.tables.exec = Jvm.exec) (hb : c.code = cc) (hdg : decode cc pc = .ok (.ineg, 1)) (hs : ∀ s', self s' = some res → ur_Wg p l e R s mid args below meth c D cas b0 ad A nL L0 S0 Q (s')) (h : ur_do self call (ur_i1 (fun a => .int (-a)) pc ls st m) = some res) : ur_Wg p l e R s mid args below meth c D cas b0 ad A nL L0 S0 Q ((pc, ls, st, m)) := by
  unfold ur_i1 at h
  split at h
  · exact ur_s_nx (fun lsr H locs cells slots _ _ _ k => lv_ineg hx hb hdg  k) (hs _ h)
  · cases h
theorem ur_i_i2l (hx : p.tables.exec = Jvm.exec) (hb : c.code = cc) (hdg : decode cc pc = .ok (.i2l, 1)) (hs : ∀ s', self s' = some res → ur_Wg p l e R s mid args below meth c D cas b0 ad A nL L0 S0 Q (s')) (h : ur_do self call (ur_i1 (fun a => .long a.toInt64) pc ls st m) = some res) : ur_Wg p l e R s mid args below meth c D cas b0 ad A nL L0 S0 Q ((pc, ls, st, m)) := by
  unfold ur_i1 at h
  split at h
  · exact ur_s_nx (fun lsr H locs cells slots _ _ _ k => lv_i2l hx hb hdg rfl k) (hs _ h)
  · cases h
theorem ur_i_i2c (hx : p.tables.exec = Jvm.exec) (hb : c.code = cc) (hdg : decode cc pc = .ok (.i2c, 1)) (hs : ∀ s', self s' = some res → ur_Wg p l e R s mid args below meth c D cas b0 ad A nL L0 S0 Q (s')) (h : ur_do self call (ur_i1 (fun a => .int (a.toUInt32 % 65536).toInt32) pc ls st m) = some res) : ur_Wg p l e R s mid args below meth c D cas b0 ad A nL L0 S0 Q ((pc, ls, st, m)) := by
  unfold ur_i1 at h
  split at h
  · exact ur_s_nx (fun lsr H locs cells slots _ _ _ k => lv_i2c hx hb hdg rfl k) (hs _ h)
  · cases h
theorem ur_i_i2b (hx : p.tables.exec = Jvm.exec) (hb : c.code = cc) (hdg : decode cc pc = .ok (.i2b, 1)) (hs : ∀ s', self s' = some res → ur_Wg p l e R s mid args below meth c D cas b0 ad A nL L0 S0 Q (s')) (h : ur_do self call (ur_i1 (fun a => .int a.toInt8.toInt32) pc ls st m) = some res) : ur_Wg p l e R s mid args below meth c D cas b0 ad A nL L0 S0 Q ((pc, ls, st, m)) := by
  unfold ur_i1 at h
  split at h
  · exact ur_s_nx (fun lsr H locs cells slots _ _ _ k => lv_i2b hx hb hdg rfl k) (hs _ h)
  · cases h
theorem ur_i_if1 (hx : p.tables.exec = Jvm.exec) (hb : c.code = cc) {k : ClassFile.Cond} {o : Int} (hdg : decode cc pc = .ok (.ifCond k o, 3)) (ht : (pc : Int) + o = (x : Int)) (hs : ∀ s', self s' = some res → ur_Wg p l e R s mid args below meth c D cas b0 ad A nL L0 S0 Q (s')) (h : ur_do self call (ur_if1 k x pc ls st m) = some res) : ur_Wg p l e R s mid args below meth c D cas b0 ad A nL L0 S0 Q ((pc, ls, st, m)) := by
  unfold ur_if1 at h
  split at h
  next a r =>
    have h : (bif ur_cnd k a 0 then self (x, ls, r, m) else self (pc + 3, ls, r, m)) = some res := h
    intro lsr H locs cells slots hl h0 hP hD hS h1 h2 h3
    have gt : ur_cnd k a 0 = true → W p l e R s mid args below meth c H locs cells slots Q (F0 mid x lsr (r.map (ur_cv b0 ad))) := fun q => by
      rw [q] at h
      exact hs _ h lsr H locs cells slots hl h0 hP hD hS h1 h2 h3
    have gf : ur_cnd k a 0 = false → W p l e R s mid args below meth c H locs cells slots Q (F0 mid (pc + 3) lsr (r.map (ur_cv b0 ad))) := fun q => by
      rw [q] at h
      exact hs _ h lsr H locs cells slots hl h0 hP hD hS h1 h2 h3
    cases k with
    | eq => exact lv_if_eq hx hb hdg ht (fun q => gt (by simp [ur_cnd, q])) (fun q => gf (by simp [ur_cnd, q]))
    | ne => exact lv_if_ne hx hb hdg ht (fun q => gt (by simp [ur_cnd]; exact q)) (fun q => gf (by simp [ur_cnd]; exact q))
    | lt => exact lv_if_lt hx hb hdg ht (fun q => gt (by simp only [ur_cnd]; exact decide_eq_true q)) (fun q => gf (by simp only [ur_cnd]; exact decide_eq_false q))
    | ge => exact lv_if_ge hx hb hdg ht (fun q => gt (by simp only [ur_cnd]; exact decide_eq_true q)) (fun q => gf (by simp only [ur_cnd]; exact decide_eq_false q))
    | gt => exact lv_if_gt hx hb hdg ht (fun q => gt (by simp only [ur_cnd]; exact decide_eq_true q)) (fun q => gf (by simp only [ur_cnd]; exact decide_eq_false q))
    | le => exact lv_if_le hx hb hdg ht (fun q => gt (by simp only [ur_cnd]; exact decide_eq_true q)) (fun q => gf (by simp only [ur_cnd]; exact decide_eq_false q))
  next => cases h
theorem ur_i_if2 (hx : p.tables.exec = Jvm.exec) (hb : c.code = cc) {k : ClassFile.Cond} {o : Int} (hdg : decode cc pc = .ok (.if_icmp k o, 3)) (ht : (pc : Int) + o = (x : Int)) (hs : ∀ s', self s' = some res → ur_Wg p l e R s mid args below meth c D cas b0 ad A nL L0 S0 Q (s')) (h : ur_do self call (ur_if2 k x pc ls st m) = some res) : ur_Wg p l e R s mid args below meth c D cas b0 ad A nL L0 S0 Q ((pc, ls, st, m)) := by
  unfold ur_if2 at h
  split at h
  next b a r =>
    have h : (bif ur_cnd k a b then self (x, ls, r, m) else self (pc + 3, ls, r, m)) = some res := h
    intro lsr H locs cells slots hl h0 hP hD hS h1 h2 h3
    have gt : ur_cnd k a b = true → W p l e R s mid args below meth c H locs cells slots Q (F0 mid x lsr (r.map (ur_cv b0 ad))) := fun q => by
      rw [q] at h
      exact hs _ h lsr H locs cells slots hl h0 hP hD hS h1 h2 h3
    have gf : ur_cnd k a b = false → W p l e R s mid args below meth c H locs cells slots Q (F0 mid (pc + 3) lsr (r.map (ur_cv b0 ad))) := fun q => by
      rw [q] at h
      exact hs _ h lsr H locs cells slots hl h0 hP hD hS h1 h2 h3
    cases k with
    | eq => exact lv_icmp_eq hx hb hdg ht (fun q => gt (by simp [ur_cnd, q])) (fun q => gf (by simp [ur_cnd, q]))
    | ne => exact lv_icmp_ne hx hb hdg ht (fun q => gt (by simp [ur_cnd]; exact q)) (fun q => gf (by simp [ur_cnd]; exact q))
    | lt => exact lv_icmp_lt hx hb hdg ht (fun q => gt (by simp only [ur_cnd]; exact decide_eq_true q)) (fun q => gf (by simp only [ur_cnd]; exact decide_eq_false q))
    | ge => exact lv_icmp_ge hx hb hdg ht (fun q => gt (by simp only [ur_cnd]; exact decide_eq_true q)) (fun q => gf (by simp only [ur_cnd]; exact decide_eq_false q))
    | gt => exact lv_icmp_gt hx hb hdg ht (fun q => gt (by simp only [ur_cnd]; exact decide_eq_true q)) (fun q => gf (by simp only [ur_cnd]; exact decide_eq_false q))
    | le => exact lv_icmp_le hx hb hdg ht (fun q => gt (by simp only [ur_cnd]; exact decide_eq_true q)) (fun q => gf (by simp only [ur_cnd]; exact decide_eq_false q))
  next => cases h
theorem ur_i_goto (hx : p.tables.exec = Jvm.exec) (hb : c.code = cc) {o : Int} (hdg : decode cc pc = .ok (.goto o, 3)) (ht : (pc : Int) + o = (x : Int)) (hs : ur_Wg p l e R s mid args below meth c D cas b0 ad A nL L0 S0 Q ((x, ls, st, m))) : ur_Wg p l e R s mid args below meth c D cas b0 ad A nL L0 S0 Q ((pc, ls, st, m)) :=
  ur_s_nx (fun lsr H locs cells slots _ _ _ k => lv_goto hx hb hdg ht k) hs
end URS

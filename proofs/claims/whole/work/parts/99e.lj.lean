/-! THE LAW'S OWN WALK: the machine over the pure memory, cells counted from above -/
def lj (p : Program) (l : Launch) (e : Env) (R : Room) (s : State) (mid : MethodId) (args : Array Value) (below : List Frame) (meth : Method) (c : Code) (D : va_G) (cas : Nat → ClassId) (b0 : Nat) (ad : Nat → Value) (A : Nat → Prop) (nL Cn Sn : Nat) (Q : State → Prop) (x : ur_S) : Prop :=
  ∀ (lsr : Array Slot) (H : Heap) (locs : List Loc) (cells slots : Nat), ur_has lsr b0 ad x.2.1 → x.2.1.length = nL → va_P D vwCl (ur_ws b0 cas x.2.2.2) H → va_D A (ur_ws b0 cas x.2.2.2) → va_S A s.heap H locs → cells ≤ Cn → slots ≤ Sn → W p l e R s mid args below meth c H locs cells slots Q (F0 mid x.1 lsr (x.2.2.1.map (ur_cv b0 ad)))
/-- what the frame knows -/
def lc (p : Program) (s : State) (mid : MethodId) (args : Array Value) (c : Code) (D : va_G) (cas : Nat → ClassId) (b0 : Nat) (ad : Nat → Value) (A : Nat → Prop) (nL : Nat) (cc : ByteArray) (own : String) : Prop := p.tables.exec = Jvm.exec ∧ c.code = cc ∧ c.maxLocals = nL ∧ s.vm.findClass own = some mid.cls ∧ (∀ w ∈ ur_T, w.before args s = true) ∧ va_K D vwCl (ur_tys cas) s ∧ ur_Old ad A s ∧ (∀ q, s.heap.size ≤ q → A q) ∧ b0 ≤ s.heap.size ∧ ur_ado ad
section URLJ
variable {p : Program} {l : Launch} {e : Env} {R : Room} {s : State} {mid : MethodId} {args : Array Value} {below : List Frame} {meth : Method} {c : Code} {D : va_G} {cas : Nat → ClassId} {b0 : Nat} {ad : Nat → Value} {A : Nat → Prop} {nL Cn Sn : Nat} {Q : State → Prop}
variable {cc : ByteArray} {own : String} {pc pc' n x : Nat} {v : Int32} {ls ls' : List (Option Value)} {st st' r : List Value} {m m' : ur_M}
theorem lj_nx (row : ∀ (lsr : Array Slot) (H : Heap) (locs : List Loc) (cells slots : Nat), ur_has lsr b0 ad ls → va_P D vwCl (ur_ws b0 cas m) H → va_S A s.heap H locs → W p l e R s mid args below meth c H locs cells slots Q (F0 mid pc' lsr (st'.map (ur_cv b0 ad))) → W p l e R s mid args below meth c H locs cells slots Q (F0 mid pc lsr (st.map (ur_cv b0 ad)))) (hs : lj p l e R s mid args below meth c D cas b0 ad A nL Cn Sn Q ((pc', ls, st', m))) : lj p l e R s mid args below meth c D cas b0 ad A nL Cn Sn Q ((pc, ls, st, m)) :=
  fun lsr H locs cells slots hl h0 hP hD hS h2 h3 => row lsr H locs cells slots hl hP hS (hs lsr H locs cells slots hl h0 hP hD hS h2 h3)
theorem lj_st (hlen : ls'.length = ls.length) (row : ∀ (lsr : Array Slot) (H : Heap) (locs : List Loc) (cells slots : Nat), ur_has lsr b0 ad ls → (∀ lsr' : Array Slot, ur_has lsr' b0 ad ls' → W p l e R s mid args below meth c H locs cells slots Q (F0 mid pc' lsr' (st'.map (ur_cv b0 ad)))) → W p l e R s mid args below meth c H locs cells slots Q (F0 mid pc lsr (st.map (ur_cv b0 ad)))) (hs : lj p l e R s mid args below meth c D cas b0 ad A nL Cn Sn Q ((pc', ls', st', m))) : lj p l e R s mid args below meth c D cas b0 ad A nL Cn Sn Q ((pc, ls, st, m)) :=
  fun lsr H locs cells slots hl h0 hP hD hS h2 h3 => row lsr H locs cells slots hl (fun lsr' hl' => hs lsr' H locs cells slots hl' (hlen.trans h0) hP hD hS h2 h3)
theorem lj_iconst (hx : lc p s mid args c D cas b0 ad A nL cc own) {k : Int} (hdg : decode cc pc = .ok (.iconst k, 1)) (hv : Int32.ofInt k = v) (hs : lj p l e R s mid args below meth c D cas b0 ad A nL Cn Sn Q ((pc + 1, ls, .int v :: st, m))) : lj p l e R s mid args below meth c D cas b0 ad A nL Cn Sn Q ((pc, ls, st, m)) :=
  lj_nx (fun lsr H locs cells slots _ _ _ k => lv_iconst hx.1 hx.2.1 hdg hv k) hs
theorem lj_bipush (hx : lc p s mid args c D cas b0 ad A nL cc own) {k : Int} (hdg : decode cc pc = .ok (.bipush k, 2)) (hv : (Int8.ofInt k).toInt32 = v) (hs : lj p l e R s mid args below meth c D cas b0 ad A nL Cn Sn Q ((pc + 2, ls, .int v :: st, m))) : lj p l e R s mid args below meth c D cas b0 ad A nL Cn Sn Q ((pc, ls, st, m)) :=
  lj_nx (fun lsr H locs cells slots _ _ _ k => lv_bipush hx.1 hx.2.1 hdg hv k) hs
theorem lj_ldc2 (hx : lc p s mid args c D cas b0 ad A nL cc own) {k : Nat} {w : Int64} (hc : Cond.constantLong own k w ∈ ur_T) (hdg : decode cc pc = .ok (.ldc2_w k, 3)) (hs : lj p l e R s mid args below meth c D cas b0 ad A nL Cn Sn Q ((pc + 3, ls, .long w :: st, m))) : lj p l e R s mid args below meth c D cas b0 ad A nL Cn Sn Q ((pc, ls, st, m)) :=
  lj_nx (fun lsr H locs cells slots _ _ _ k => lv_ldc2 hx.1 hx.2.1 hx.2.2.2.1 (hx.2.2.2.2.1 _ hc) hdg k) hs
theorem lj_iload_n (hx : lc p s mid args c D cas b0 ad A nL cc own) {k : Fin 4} {w : Int32} (hdg : decode cc pc = .ok (.iload_n k, 1)) (hw : ur_ld ls k = some (.int w)) (hs : lj p l e R s mid args below meth c D cas b0 ad A nL Cn Sn Q ((pc + 1, ls, .int w :: st, m))) : lj p l e R s mid args below meth c D cas b0 ad A nL Cn Sn Q ((pc, ls, st, m)) :=
  lj_nx (fun lsr H locs cells slots hl _ _ k => lv_iload_n hx.1 hx.2.1 hdg rfl (ur_has_at hl hw) k) hs
theorem lj_iload (hx : lc p s mid args c D cas b0 ad A nL cc own) {k : Nat} {w : Int32} (hdg : decode cc pc = .ok (.iload k, 2)) (hw : ur_ld ls k = some (.int w)) (hs : lj p l e R s mid args below meth c D cas b0 ad A nL Cn Sn Q ((pc + 2, ls, .int w :: st, m))) : lj p l e R s mid args below meth c D cas b0 ad A nL Cn Sn Q ((pc, ls, st, m)) :=
  lj_nx (fun lsr H locs cells slots hl _ _ k => lv_iload hx.1 hx.2.1 hdg (ur_has_at hl hw) k) hs
theorem lj_aload_n (hx : lc p s mid args c D cas b0 ad A nL cc own) {k : Fin 4} {w : Nat} (hdg : decode cc pc = .ok (.aload_n k, 1)) (hw : ur_ld ls k = some (.ref w)) (hs : lj p l e R s mid args below meth c D cas b0 ad A nL Cn Sn Q ((pc + 1, ls, .ref w :: st, m))) : lj p l e R s mid args below meth c D cas b0 ad A nL Cn Sn Q ((pc, ls, st, m)) :=
  lj_nx (fun lsr H locs cells slots hl _ _ k => by
    have h1 := ur_has_at hl hw
    rw [List.map_cons] at k
    rcases ur_cv_ref (b0 := b0) hx.2.2.2.2.2.2.2.2.2 w with h | ⟨q, h⟩ <;> rw [h] at h1 k
    · exact lv_aload_nN hx.1 hx.2.1 hdg rfl h1 k
    · exact lv_aload_n hx.1 hx.2.1 hdg rfl h1 k) hs
theorem lj_aload (hx : lc p s mid args c D cas b0 ad A nL cc own) {k : Nat} {w : Nat} (hdg : decode cc pc = .ok (.aload k, 2)) (hw : ur_ld ls k = some (.ref w)) (hs : lj p l e R s mid args below meth c D cas b0 ad A nL Cn Sn Q ((pc + 2, ls, .ref w :: st, m))) : lj p l e R s mid args below meth c D cas b0 ad A nL Cn Sn Q ((pc, ls, st, m)) :=
  lj_nx (fun lsr H locs cells slots hl _ _ k => by
    have h1 := ur_has_at hl hw
    rw [List.map_cons] at k
    rcases ur_cv_ref (b0 := b0) hx.2.2.2.2.2.2.2.2.2 w with h | ⟨q, h⟩ <;> rw [h] at h1 k
    · exact lv_aloadN hx.1 hx.2.1 hdg h1 k
    · exact lv_aload hx.1 hx.2.1 hdg h1 k) hs
theorem lj_istore (hx : lc p s mid args c D cas b0 ad A nL cc own) {k : Nat} {w : Int32} (hdg : decode cc pc = .ok (.istore k, 2)) (hk : k < ls.length) (hs : lj p l e R s mid args below meth c D cas b0 ad A nL Cn Sn Q ((pc + 2, ur_st1 ls k (.int w), st, m))) : lj p l e R s mid args below meth c D cas b0 ad A nL Cn Sn Q ((pc, ls, .int w :: st, m)) :=
  lj_st (ur_st1_len _ _) (fun lsr H locs cells slots hl kk => lv_istore hx.1 hx.2.1 hdg hl hk rfl (fun ls' h => kk ls' (ur_has_st1 hx.2.2.2.2.2.2.2.2.2 h))) hs
theorem lj_iinc (hx : lc p s mid args c D cas b0 ad A nL cc own) {j : Nat} {k : Int} {w : Int32} (hdg : decode cc pc = .ok (.iinc j k, 3)) (hw : ur_ld ls j = some (.int w)) (hv : Int32.ofInt k = v) (hk : j < ls.length) (hs : lj p l e R s mid args below meth c D cas b0 ad A nL Cn Sn Q ((pc + 3, ur_st1 ls j (.int (w + v)), st, m))) : lj p l e R s mid args below meth c D cas b0 ad A nL Cn Sn Q ((pc, ls, st, m)) :=
  lj_st (ur_st1_len _ _) (fun lsr H locs cells slots hl kk => by
    obtain ⟨q, hq⟩ := List.getElem?_of_mem (ur_asc_mem (b0 := b0) (ad := ad) (q := (j, .int w)) |>.mpr ⟨.int w, ur_ld_some hw, rfl⟩)
    exact lv_iinc (v := w + v) hx.1 hx.2.1 hdg hl hq (by rw [hv]) hk rfl (fun ls' h => kk ls' (ur_has_st1 (v := .int (w + v)) hx.2.2.2.2.2.2.2.2.2 h))) hs
theorem lj_iadd (hx : lc p s mid args c D cas b0 ad A nL cc own) {a b : Int32} (hdg : decode cc pc = .ok (.iadd, 1)) (hs : lj p l e R s mid args below meth c D cas b0 ad A nL Cn Sn Q ((pc + 1, ls, .int (a + b) :: r, m))) : lj p l e R s mid args below meth c D cas b0 ad A nL Cn Sn Q ((pc, ls, .int b :: .int a :: r, m)) :=
  lj_nx (fun lsr H locs cells slots _ _ _ k => lv_iadd hx.1 hx.2.1 hdg k) hs
theorem lj_isub (hx : lc p s mid args c D cas b0 ad A nL cc own) {a b : Int32} (hdg : decode cc pc = .ok (.isub, 1)) (hs : lj p l e R s mid args below meth c D cas b0 ad A nL Cn Sn Q ((pc + 1, ls, .int (a - b) :: r, m))) : lj p l e R s mid args below meth c D cas b0 ad A nL Cn Sn Q ((pc, ls, .int b :: .int a :: r, m)) :=
  lj_nx (fun lsr H locs cells slots _ _ _ k => lv_isub hx.1 hx.2.1 hdg k) hs
theorem lj_iand (hx : lc p s mid args c D cas b0 ad A nL cc own) {a b : Int32} (hdg : decode cc pc = .ok (.iand, 1)) (hs : lj p l e R s mid args below meth c D cas b0 ad A nL Cn Sn Q ((pc + 1, ls, .int (a &&& b) :: r, m))) : lj p l e R s mid args below meth c D cas b0 ad A nL Cn Sn Q ((pc, ls, .int b :: .int a :: r, m)) :=
  lj_nx (fun lsr H locs cells slots _ _ _ k => lv_iand hx.1 hx.2.1 hdg k) hs
theorem lj_land (hx : lc p s mid args c D cas b0 ad A nL cc own) {a b : Int64} (hdg : decode cc pc = .ok (.land, 1)) (hs : lj p l e R s mid args below meth c D cas b0 ad A nL Cn Sn Q ((pc + 1, ls, .long (a &&& b) :: r, m))) : lj p l e R s mid args below meth c D cas b0 ad A nL Cn Sn Q ((pc, ls, .long b :: .long a :: r, m)) :=
  lj_nx (fun lsr H locs cells slots _ _ _ k => lv_land hx.1 hx.2.1 hdg k) hs
theorem lj_lor (hx : lc p s mid args c D cas b0 ad A nL cc own) {a b : Int64} (hdg : decode cc pc = .ok (.lor, 1)) (hs : lj p l e R s mid args below meth c D cas b0 ad A nL Cn Sn Q ((pc + 1, ls, .long (a ||| b) :: r, m))) : lj p l e R s mid args below meth c D cas b0 ad A nL Cn Sn Q ((pc, ls, .long b :: .long a :: r, m)) :=
  lj_nx (fun lsr H locs cells slots _ _ _ k => lv_lor hx.1 hx.2.1 hdg k) hs
theorem lj_i2l (hx : lc p s mid args c D cas b0 ad A nL cc own) {a : Int32} (hdg : decode cc pc = .ok (.i2l, 1)) (hs : lj p l e R s mid args below meth c D cas b0 ad A nL Cn Sn Q ((pc + 1, ls, .long a.toInt64 :: r, m))) : lj p l e R s mid args below meth c D cas b0 ad A nL Cn Sn Q ((pc, ls, .int a :: r, m)) :=
  lj_nx (fun lsr H locs cells slots _ _ _ k => lv_i2l hx.1 hx.2.1 hdg rfl k) hs
theorem lj_lshl (hx : lc p s mid args c D cas b0 ad A nL cc own) {a : Int64} {b : Int32} (hdg : decode cc pc = .ok (.lshl, 1)) (hs : lj p l e R s mid args below meth c D cas b0 ad A nL Cn Sn Q ((pc + 1, ls, .long (a <<< (b.toInt64 &&& 63)) :: r, m))) : lj p l e R s mid args below meth c D cas b0 ad A nL Cn Sn Q ((pc, ls, .int b :: .long a :: r, m)) :=
  lj_nx (fun lsr H locs cells slots _ _ _ k => lv_lshl hx.1 hx.2.1 hdg rfl k) hs
theorem lj_lcmp (hx : lc p s mid args c D cas b0 ad A nL cc own) {a b : Int64} (hdg : decode cc pc = .ok (.lcmp, 1)) (hs : lj p l e R s mid args below meth c D cas b0 ad A nL Cn Sn Q ((pc + 1, ls, .int (lg_cmp a b) :: r, m))) : lj p l e R s mid args below meth c D cas b0 ad A nL Cn Sn Q ((pc, ls, .long b :: .long a :: r, m)) :=
  lj_nx (fun lsr H locs cells slots _ _ _ k => W.lcmp hx.1 hx.2.1 hdg k) hs
theorem lj_goto (hx : lc p s mid args c D cas b0 ad A nL cc own) {o : Int} (hdg : decode cc pc = .ok (.goto o, 3)) (ht : (pc : Int) + o = (x : Int)) (hs : lj p l e R s mid args below meth c D cas b0 ad A nL Cn Sn Q ((x, ls, st, m))) : lj p l e R s mid args below meth c D cas b0 ad A nL Cn Sn Q ((pc, ls, st, m)) :=
  lj_nx (fun lsr H locs cells slots _ _ _ k => lv_goto hx.1 hx.2.1 hdg ht k) hs
theorem lj_ifeq (hx : lc p s mid args c D cas b0 ad A nL cc own) {a : Int32} {o : Int} (hdg : decode cc pc = .ok (.ifCond .eq o, 3)) (ht : (pc : Int) + o = (x : Int)) (kt : a = 0 → lj p l e R s mid args below meth c D cas b0 ad A nL Cn Sn Q ((x, ls, r, m))) (kf : ¬ a = 0 → lj p l e R s mid args below meth c D cas b0 ad A nL Cn Sn Q ((pc + 3, ls, r, m))) : lj p l e R s mid args below meth c D cas b0 ad A nL Cn Sn Q ((pc, ls, .int a :: r, m)) :=
  fun lsr H locs cells slots hl h0 hP hD hS h2 h3 => lv_if_eq hx.1 hx.2.1 hdg ht (fun q => kt q lsr H locs cells slots hl h0 hP hD hS h2 h3) (fun q => kf q lsr H locs cells slots hl h0 hP hD hS h2 h3)
theorem lj_ifne (hx : lc p s mid args c D cas b0 ad A nL cc own) {a : Int32} {o : Int} (hdg : decode cc pc = .ok (.ifCond .ne o, 3)) (ht : (pc : Int) + o = (x : Int)) (kt : ¬ a = 0 → lj p l e R s mid args below meth c D cas b0 ad A nL Cn Sn Q ((x, ls, r, m))) (kf : a = 0 → lj p l e R s mid args below meth c D cas b0 ad A nL Cn Sn Q ((pc + 3, ls, r, m))) : lj p l e R s mid args below meth c D cas b0 ad A nL Cn Sn Q ((pc, ls, .int a :: r, m)) :=
  fun lsr H locs cells slots hl h0 hP hD hS h2 h3 => lv_if_ne hx.1 hx.2.1 hdg ht (fun q => kt q lsr H locs cells slots hl h0 hP hD hS h2 h3) (fun q => kf q lsr H locs cells slots hl h0 hP hD hS h2 h3)
theorem lj_icmp_eq (hx : lc p s mid args c D cas b0 ad A nL cc own) {a b : Int32} {o : Int} (hdg : decode cc pc = .ok (.if_icmp .eq o, 3)) (ht : (pc : Int) + o = (x : Int)) (kt : (a = b) → lj p l e R s mid args below meth c D cas b0 ad A nL Cn Sn Q ((x, ls, r, m))) (kf : ¬ (a = b) → lj p l e R s mid args below meth c D cas b0 ad A nL Cn Sn Q ((pc + 3, ls, r, m))) : lj p l e R s mid args below meth c D cas b0 ad A nL Cn Sn Q ((pc, ls, .int b :: .int a :: r, m)) :=
  fun lsr H locs cells slots hl h0 hP hD hS h2 h3 => lv_icmp_eq hx.1 hx.2.1 hdg ht (fun q => kt q lsr H locs cells slots hl h0 hP hD hS h2 h3) (fun q => kf (by first | exact q | exact fun z => z q) lsr H locs cells slots hl h0 hP hD hS h2 h3)
theorem lj_icmp_ne (hx : lc p s mid args c D cas b0 ad A nL cc own) {a b : Int32} {o : Int} (hdg : decode cc pc = .ok (.if_icmp .ne o, 3)) (ht : (pc : Int) + o = (x : Int)) (kt : (¬ a = b) → lj p l e R s mid args below meth c D cas b0 ad A nL Cn Sn Q ((x, ls, r, m))) (kf : ¬ (¬ a = b) → lj p l e R s mid args below meth c D cas b0 ad A nL Cn Sn Q ((pc + 3, ls, r, m))) : lj p l e R s mid args below meth c D cas b0 ad A nL Cn Sn Q ((pc, ls, .int b :: .int a :: r, m)) :=
  fun lsr H locs cells slots hl h0 hP hD hS h2 h3 => lv_icmp_ne hx.1 hx.2.1 hdg ht (fun q => kt q lsr H locs cells slots hl h0 hP hD hS h2 h3) (fun q => kf (by first | exact q | exact fun z => z q) lsr H locs cells slots hl h0 hP hD hS h2 h3)
theorem lj_icmp_gt (hx : lc p s mid args c D cas b0 ad A nL cc own) {a b : Int32} {o : Int} (hdg : decode cc pc = .ok (.if_icmp .gt o, 3)) (ht : (pc : Int) + o = (x : Int)) (kt : (b < a) → lj p l e R s mid args below meth c D cas b0 ad A nL Cn Sn Q ((x, ls, r, m))) (kf : ¬ (b < a) → lj p l e R s mid args below meth c D cas b0 ad A nL Cn Sn Q ((pc + 3, ls, r, m))) : lj p l e R s mid args below meth c D cas b0 ad A nL Cn Sn Q ((pc, ls, .int b :: .int a :: r, m)) :=
  fun lsr H locs cells slots hl h0 hP hD hS h2 h3 => lv_icmp_gt hx.1 hx.2.1 hdg ht (fun q => kt q lsr H locs cells slots hl h0 hP hD hS h2 h3) (fun q => kf (by first | exact q | exact fun z => z q) lsr H locs cells slots hl h0 hP hD hS h2 h3)
theorem lj_icmp_ge (hx : lc p s mid args c D cas b0 ad A nL cc own) {a b : Int32} {o : Int} (hdg : decode cc pc = .ok (.if_icmp .ge o, 3)) (ht : (pc : Int) + o = (x : Int)) (kt : (b ≤ a) → lj p l e R s mid args below meth c D cas b0 ad A nL Cn Sn Q ((x, ls, r, m))) (kf : ¬ (b ≤ a) → lj p l e R s mid args below meth c D cas b0 ad A nL Cn Sn Q ((pc + 3, ls, r, m))) : lj p l e R s mid args below meth c D cas b0 ad A nL Cn Sn Q ((pc, ls, .int b :: .int a :: r, m)) :=
  fun lsr H locs cells slots hl h0 hP hD hS h2 h3 => lv_icmp_ge hx.1 hx.2.1 hdg ht (fun q => kt q lsr H locs cells slots hl h0 hP hD hS h2 h3) (fun q => kf (by first | exact q | exact fun z => z q) lsr H locs cells slots hl h0 hP hD hS h2 h3)
theorem lj_icmp_lt (hx : lc p s mid args c D cas b0 ad A nL cc own) {a b : Int32} {o : Int} (hdg : decode cc pc = .ok (.if_icmp .lt o, 3)) (ht : (pc : Int) + o = (x : Int)) (kt : (a < b) → lj p l e R s mid args below meth c D cas b0 ad A nL Cn Sn Q ((x, ls, r, m))) (kf : ¬ (a < b) → lj p l e R s mid args below meth c D cas b0 ad A nL Cn Sn Q ((pc + 3, ls, r, m))) : lj p l e R s mid args below meth c D cas b0 ad A nL Cn Sn Q ((pc, ls, .int b :: .int a :: r, m)) :=
  fun lsr H locs cells slots hl h0 hP hD hS h2 h3 => lv_icmp_lt hx.1 hx.2.1 hdg ht (fun q => kt q lsr H locs cells slots hl h0 hP hD hS h2 h3) (fun q => kf (by first | exact q | exact fun z => z q) lsr H locs cells slots hl h0 hP hD hS h2 h3)
theorem lj_icmp_le (hx : lc p s mid args c D cas b0 ad A nL cc own) {a b : Int32} {o : Int} (hdg : decode cc pc = .ok (.if_icmp .le o, 3)) (ht : (pc : Int) + o = (x : Int)) (kt : (a ≤ b) → lj p l e R s mid args below meth c D cas b0 ad A nL Cn Sn Q ((x, ls, r, m))) (kf : ¬ (a ≤ b) → lj p l e R s mid args below meth c D cas b0 ad A nL Cn Sn Q ((pc + 3, ls, r, m))) : lj p l e R s mid args below meth c D cas b0 ad A nL Cn Sn Q ((pc, ls, .int b :: .int a :: r, m)) :=
  fun lsr H locs cells slots hl h0 hP hD hS h2 h3 => lv_icmp_le hx.1 hx.2.1 hdg ht (fun q => kt q lsr H locs cells slots hl h0 hP hD hS h2 h3) (fun q => kf (by first | exact q | exact fun z => z q) lsr H locs cells slots hl h0 hP hD hS h2 h3)
theorem lj_table (hx : lc p s mid args c D cas b0 ad A nL cc own) {sw : List (Int32 × Nat)} {d : Nat} {dflt lo hi : Int} {offs : Array Int} (hdg : decode cc pc = .ok (.tableswitch dflt lo hi offs, n)) (h1 : sw.map (fun q => (q.1.toInt, (q.2 : Int))) = (List.range offs.toList.length).map (fun (j : Nat) => (lo + (j : Int), (pc : Int) + offs.toList.getD j 0))) (h2 : (pc : Int) + dflt = (d : Int)) (h3 : hi + 1 = lo + offs.toList.length) {w : Int32} (hs : lj p l e R s mid args below meth c D cas b0 ad A nL Cn Sn Q ((ur_sel sw d w, ls, r, m))) : lj p l e R s mid args below meth c D cas b0 ad A nL Cn Sn Q ((pc, ls, .int w :: r, m)) := by
  have hsel := ur_sel_tab (pc := pc) dflt sw offs.toList lo d w h1
  by_cases hin : w.toInt < lo ∨ hi < w.toInt
  · rw [hsel.1 (by omega)] at hs
    exact lj_nx (fun lsr H locs cells slots _ _ _ k => lv_tableOut hx.1 hx.2.1 hdg hin h2 k) hs
  · have hlt : (w.toInt - lo).toNat < offs.toList.length := by omega
    refine lj_nx (fun lsr H locs cells slots _ _ _ k => lv_tableIn (off := offs.toList.getD (w.toInt - lo).toNat 0) hx.1 hx.2.1 hdg (fun q => hin (Or.inl q)) (fun q => hin (Or.inr q)) ?_ (hsel.2 (by omega) (by omega)) k) hs
    rw [← Array.getElem?_toList, List.getD_eq_getElem?_getD, List.getElem?_eq_getElem hlt]
    rfl
/-- the script -/
theorem lj_sld (hx : lc p s mid args c D cas b0 ad A nL cc own) {b L w : Nat} {xs : Nat → Int32} {i : Int32} (hX : va_X b L xs s s.heap) (hbl : b < s.heap.size) (hbA : ¬ A b) (hw : ur_cv b0 ad (.ref w) = .ref b) (hin : vp_in i L) (hdg : decode cc pc = .ok (.iaload, 1)) (hs : lj p l e R s mid args below meth c D cas b0 ad A nL Cn Sn Q ((pc + 1, ls, .int (xs i.toNatClampNeg) :: r, m))) : lj p l e R s mid args below meth c D cas b0 ad A nL Cn Sn Q ((pc, ls, .int i :: .ref w :: r, m)) :=
  lj_nx (fun lsr H locs cells slots _ _ hS k => by
    simp only [List.map_cons, hw]
    exact va_sld hx.1 hx.2.1 hX hbl hbA hS hin hdg k) hs
theorem lj_slen (hx : lc p s mid args c D cas b0 ad A nL cc own) {b L w : Nat} {xs : Nat → Int32} (hX : va_X b L xs s s.heap) (hbl : b < s.heap.size) (hbA : ¬ A b) (hw : ur_cv b0 ad (.ref w) = .ref b) (hdg : decode cc pc = .ok (.arraylength, 1)) (hs : lj p l e R s mid args below meth c D cas b0 ad A nL Cn Sn Q ((pc + 1, ls, .int (Int32.ofNat L) :: r, m))) : lj p l e R s mid args below meth c D cas b0 ad A nL Cn Sn Q ((pc, ls, .ref w :: r, m)) :=
  lj_nx (fun lsr H locs cells slots _ _ hS k => by
    simp only [List.map_cons, hw]
    exact va_slen hx.1 hx.2.1 hX hbl hbA hS hdg k) hs
theorem lj_laload (hx : lc p s mid args c D cas b0 ad A nL cc own) {a N : Nat} {i : Int32} (ho : m.1[a]? = some (.inr (1, N))) (hm : m.1.length ≤ 1000) (hin : ur_inb i N = true) (hdg : decode cc pc = .ok (.laload, 1)) (hs : lj p l e R s mid args below meth c D cas b0 ad A nL Cn Sn Q ((pc + 1, ls, .long (m.2.2.1 a i.toNatClampNeg) :: r, m))) : lj p l e R s mid args below meth c D cas b0 ad A nL Cn Sn Q ((pc, ls, .int i :: .ref a :: r, m)) :=
  lj_nx (fun lsr H locs cells slots _ hP hS k => by
    simp only [List.map_cons, ur_cv_in (ur_small ho hm)]
    exact va_lald hx.1 hx.2.1 hx.2.2.2.2.2.1 hP a 1 (ur_ws_A ho) rfl (ur_inb_t hin) hdg k) hs
theorem lj_lastore (hx : lc p s mid args c D cas b0 ad A nL cc own) {a : Nat} {i : Int32} {w : Int64} (hm : m.1.length ≤ 1000) (h1 : ur_wL m a i w = some m') (hdg : decode cc pc = .ok (.lastore, 1)) (hs : lj p l e R s mid args below meth c D cas b0 ad A nL Cn Sn Q ((pc + 1, ls, r, m'))) : lj p l e R s mid args below meth c D cas b0 ad A nL Cn Sn Q ((pc, ls, .long w :: .int i :: .ref a :: r, m)) := by
  simp only [ur_wL] at h1
  split at h1
  next n hn =>
    obtain ⟨g1, g2⟩ := ur_cond_t h1
    have ho := ur_isA_t hn
    have hm' := (Option.some.inj g2).symm
    intro lsr H locs cells slots hl h0 hP hD hS h2 h3
    simp only [List.map_cons, ur_cv_in (ur_small ho hm)]
    refine va_last hx.1 hx.2.1 hx.2.2.2.2.2.1 hP hD hS a 1 (ur_ws_A ho) rfl (ur_inb_t g1) hdg (fun H1 locs1 p1 p2 p3 => ?_)
    rw [ur_ws_arr (m' := m') ho (by rw [hm']) (fun b hb => by rw [hm']; exact ⟨rfl, ur_u_ne hb, rfl⟩) (by rw [hm']; simp only [ur_ar, ur_u_updL])] at p1 p2
    exact hs lsr H1 locs1 cells slots hl h0 p1 p2 p3 h2 h3
  next => cases h1
end URLJ

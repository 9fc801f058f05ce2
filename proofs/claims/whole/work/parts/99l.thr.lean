/-! RESTS, where the class throws -/
def rx_N : String := "java/util/NoSuchElementException"
def rx_L : List Cond := vx_at0 RX9 340 rx_N ["java/lang/RuntimeException", "java/lang/Exception"]
def rx_B : List Cond := [.declares ⟨"java/lang/RuntimeException", "<init>", "()V"⟩, .declares ⟨"java/lang/Exception", "<init>", "()V"⟩, .declares ⟨"java/lang/Throwable", "<init>", "()V"⟩, .castable "java/util/NoSuchElementException" "java/util/NoSuchElementException"]
theorem rx_tbl : ∀ w ∈ rx_L.filter goodWord, w ∈ lw_tbl := by decide +kernel
theorem rx_good : ∀ w ∈ rx_L.filter goodWord, w ∈ ur_T := fun w h => List.mem_filter.mpr ⟨rx_tbl w h, (List.mem_filter.mp h).2⟩
theorem rx_bad : ∀ w ∈ rx_L.filter (fun w => !goodWord w), w ∈ rx_B := by decide +kernel
theorem rx_lk : Cond.classLink RX9 338 rx_N ∈ ur_T := List.mem_filter.mpr ⟨by decide +kernel, by decide +kernel⟩
theorem rx_in : Cond.initialized rx_N ∈ ur_T := List.mem_filter.mpr ⟨by decide +kernel, by decide +kernel⟩
theorem rx_ot : ∀ w ∈ Cond.classLink RX9 338 rx_N :: Cond.initialized rx_N :: rx_L, vx_ot w = true := by decide +kernel
/-- what a throw needs of the world -/
def rx_E (A : Nat → Prop) (U : State) : Prop := (∀ w ∈ rx_B, va_Nw w U) ∧ vx_Zq Bundle.tN "UNASSIGNED_STACK" Bundle.steD A U U.heap ∧ vx_Zq Bundle.tN "SUPPRESSED_SENTINEL" Bundle.listD A U U.heap
theorem rx_E.go {A B : Nat → Prop} {s U : State} (h : rx_E A s) (hW : s.WarmedH U.vm) (hq : ∀ a : Nat, a < s.heap.size → ¬ A a → U.heap[a]? = s.heap[a]?) (hAB : ∀ q, B q → A q) : rx_E B U := by
  obtain ⟨h1, h2, h3⟩ := h
  have hv := hW.alike
  refine ⟨fun w hw => ?_, ((h2.moved hv).kept hq).narrow hAB, ((h3.moved hv).kept hq).narrow hAB⟩
  have h4 := h1 w hw
  simp only [rx_B, List.mem_cons, List.not_mem_nil, or_false] at hw
  rcases hw with rfl | rfl | rfl | rfl
  · exact va_Nw.warmD hW h4
  · exact va_Nw.warmD hW h4
  · exact va_Nw.warmD hW h4
  · exact va_Nw.warmC hW h4
theorem rx_E.same {A : Nat → Prop} {s U : State} (h : rx_E A s) (hv : U.vm = s.vm) (hh : U.heap = s.heap) : rx_E A U := by
  obtain ⟨h1, h2, h3⟩ := h
  have ha : s.vm.Alike U.vm := by rw [hv]; exact Vm.Alike.refl s.vm
  refine ⟨fun w hw => ?_, by rw [hh]; exact h2.moved ha, by rw [hh]; exact h3.moved ha⟩
  have h4 := h1 w hw
  simp only [rx_B, List.mem_cons, List.not_mem_nil, or_false] at hw
  rcases hw with rfl | rfl | rfl | rfl <;> exact va_Nw.same rfl hv.symm h4
theorem rx_words {A : Nat → Prop} {s : State} {args : Array Value} (h : rx_E A s) (hts : ∀ w ∈ ur_T, w.before args s = true) : ∀ w ∈ rx_L, w.before args s = true := by
  refine vx_hat (B := rx_B) (fun w hw => hts w (rx_good w hw)) rx_bad (fun w hw => ?_)
  have h4 := h.1 w hw
  simp only [rx_B, List.mem_cons, List.not_mem_nil, or_false] at hw
  rcases hw with rfl | rfl | rfl | rfl <;> exact va_Nw.use rfl h4
/-- what is known where it has thrown -/
def rx_X (D : va_G) (cas : Nat → ClassId) (b0 : Nat) (A : Nat → Prop) (m : ur_M) : String → State → State → Prop := vx_X (fun _ : Unit => True) (fun E _ t => E = rx_N ∧ va_P D vwCl (ur_ws b0 cas m) t.heap) A
section URTH
variable {p : Program} {l : Launch} {e : Env} {R : Room} {s : State} {mid : MethodId} {args : Array Value} {below : List Frame} {meth : Method} {c : Code} {D : va_G} {cas : Nat → ClassId} {b0 : Nat} {ad : Nat → Value} {A : Nat → Prop} {Q : State → Prop} {Qc : Array Value → State → Outcome → State → Prop}
variable {pc z : Nat} {ls : List (Option Value)} {m : ur_M} {a b cc w : Int32}
theorem rx_throw (hx : lc p s mid args c D cas b0 ad A 7 cX9_rests RX9) (hl : l.stackTraces = false) (hE : rx_E A s) (hout : ∀ x ∈ c.exceptionTable.toList, False) (hlocks : meth.locks = false) (hR : 6 ≤ R.frames ∧ 81 ≤ R.locals ∧ 1 ≤ R.cells ∧ 6 ≤ R.slots) (d0 : decode cX9_rests pc = .ok (.new 338, 3)) (d3 : decode cX9_rests (pc + 3) = .ok (.dup, 1)) (d4 : decode cX9_rests (pc + 4) = .ok (.invokespecial 340, 3)) (d7 : decode cX9_rests (pc + 7) = .ok (.athrow, 1)) : lj p l e R s mid args below meth c D cas b0 ad A 7 0 0 (vx_MQ below Qc (rx_X D cas b0 A m) args s 1 6 A) (pc, ls, [], m) := by
  intro lsr H locs cells slots hl2 h0 hP hD hS q2 q3
  have hP : va_P D vwCl (ur_ws b0 cas m) H := hP
  refine vx_throw0 (own := RX9) (cls := rx_N) (names := ["java/lang/RuntimeException", "java/lang/Exception"]) (ik := 338) (ic := 340) (A := A) hx.1 hx.2.1 hl hx.2.2.2.1 (by decide) (by decide) (hx.2.2.2.2.1 _ rx_lk) (hx.2.2.2.2.1 _ rx_in) (rx_words hE hx.2.2.2.2.1) rx_ot hE.2.1 hE.2.2 hS ?_ d0 d3 d4 d7 (fun x h => absurd (hout x h) (fun y => y)) ?_ ?_ ?_ ?_ hlocks (fun t hv h1 h2 => ⟨(), trivial, ⟨rfl, hP.kept (fun k q hk => h2 _ ((hP k q hk).lt))⟩, Nat.le_trans hS.1 h1, fun q h3 h4 => (h2 q (Nat.lt_of_lt_of_le h3 hS.1)).trans (hS.2.1 q h3 h4)⟩) hS.2.2 (by omega) (by omega)
  · exact (hl2.1.trans h0).trans hx.2.2.1.symm
  · show 2 + 3 < R.frames; omega
  · show 0 + (13 * (2 + 1) + 42) ≤ R.locals; omega
  · omega
  · omega
theorem rx_prize : ur_PL ur_GN RX9 (335, 1, 4131, 0) := ur_LO_X9 _ (by decide +kernel)
theorem rx_rest : ur_PL ur_GN RX9 (341, 1, 4169, 0) := ur_LO_X9 _ (by decide +kernel)
theorem rx_loop (hx : lc p s mid args c D cas b0 ad A 7 cX9_rests RX9) (hl : l.stackTraces = false) (hE : rx_E A s) (hout : ∀ x ∈ c.exceptionTable.toList, False) (hlocks : meth.locks = false) (hm : m.1.length ≤ 1000) (hR : 10 ≤ R.frames ∧ 1000 ≤ R.locals ∧ 1 ≤ R.cells ∧ 6 ≤ R.slots) {x0 : Option Value} : ∀ (t k : Nat) (n : Int32), t + k = 4 → rsE w (rsF a b cc w t k n) = none → lj p l e R s mid args below meth c D cas b0 ad A 7 0 0 (vx_MQ below Qc (rx_X D cas b0 A m) args s 1 6 A) (41, [x0, some (.int a), some (.int b), some (.int cc), some (.int w), some (.int n), some (.int (nI k))], [], m) := by
  intro t
  induction t with
  | zero =>
    intro k n hk h
    have : k = 4 := by omega
    subst this
    have h : (bif decide (w = -1) then some n else none) = none := h
    refine lj_iload hx dX9_rests_41 rfl (lj_iconst (v := 4) hx dX9_rests_43 rfl (lj_icmp_ge hx dX9_rests_44 (x := 77) rfl (fun _ => ?_) (fun y => absurd (show (4 : Int32) ≤ nI 4 from by decide) y)))
    refine lj_iload hx dX9_rests_77 rfl (lj_iconst (v := -1) hx dX9_rests_79 rfl (lj_icmp_eq hx dX9_rests_80 (x := 91) rfl (fun y => ?_) (fun _ => ?_)))
    · rw [decide_eq_true y] at h; cases h
    · exact rx_throw hx hl hE hout hlocks ⟨by omega, by omega, hR.2.2⟩ dX9_rests_83 dX9_rests_86 dX9_rests_87 dX9_rests_90
  | succ t ih =>
    intro k n hk h
    have h : rsE w (bif arK a b cc k then (bif decide (n = w) then .inl (nI k) else rsF a b cc w t (k + 1) (n + 1)) else rsF a b cc w t (k + 1) n) = none := h
    have h4 : ¬ (4 : Int32) ≤ nI k := fun y => by
      have := (d_le (a := 4) (b := k) (by decide) (by omega)).symm.trans (decide_eq_true y)
      have := of_decide_eq_true this
      omega
    have nk : nI k + (1 : Int32) = nI (k + 1) := nI_1 k
    refine lj_iload hx dX9_rests_41 rfl (lj_iconst (v := 4) hx dX9_rests_43 rfl (lj_icmp_ge hx dX9_rests_44 (x := 77) rfl (fun y => absurd y h4) (fun _ => ?_)))
    refine lj_iload hx dX9_rests_47 rfl (lj_iload_n hx dX9_rests_49 rfl (lj_iload_n hx dX9_rests_50 rfl (lj_iload_n hx dX9_rests_51 rfl ?_)))
    refine lj_stat (d := 1) (As := [.int (nI k), .int a, .int b, .int cc]) (r := []) (v := (ur_b (arK a b cc k), m)) hx rx_rest rfl (by decide) (u_rest (d := 0) (by omega)) rfl hm rfl (by omega) (by omega) (by omega) (by omega) (by decide) dX9_rests_52 ?_
    refine lj_ifeq hx dX9_rests_55 (x := 71) rfl (fun y => ?_) (fun y => ?_)
    · have ea : arK a b cc k = false := by
        cases ea : arK a b cc k with
        | false => rfl
        | true => rw [ea] at y; exact absurd (show (1 : Int32) = 0 from y) (by decide)
      rw [ea] at h
      refine lj_iinc (v := 1) hx dX9_rests_71 rfl rfl (show 6 < 7 by decide) (lj_goto hx dX9_rests_74 (x := 41) rfl ?_)
      rw [nk]
      exact ih (k + 1) n (by omega) h
    · have ea : arK a b cc k = true := by
        cases ea : arK a b cc k with
        | true => rfl
        | false => rw [ea] at y; exact absurd rfl y
      rw [ea] at h
      have h : rsE w (bif decide (n = w) then .inl (nI k) else rsF a b cc w t (k + 1) (n + 1)) = none := h
      refine lj_iload hx dX9_rests_58 rfl (lj_iload hx dX9_rests_60 rfl (lj_icmp_ne hx dX9_rests_62 (x := 68) rfl (fun y => ?_) (fun y => ?_)))
      · rw [decide_eq_false y] at h
        refine lj_iinc (v := 1) hx dX9_rests_68 rfl rfl (show 5 < 7 by decide) (lj_iinc (v := 1) hx dX9_rests_71 rfl rfl (show 6 < 7 by decide) (lj_goto hx dX9_rests_74 (x := 41) rfl ?_))
        rw [nk]
        exact ih (k + 1) (n + 1) (by omega) h
      · rw [decide_eq_true (Classical.not_not.mp y)] at h
        cases h
theorem rx_walk (hx : lc p s mid args c D cas b0 ad A 7 cX9_rests RX9) (hl : l.stackTraces = false) (hE : rx_E A s) (hout : ∀ x ∈ c.exceptionTable.toList, False) (hlocks : meth.locks = false) (hm : m.1.length ≤ 1000) (hR : 10 ≤ R.frames ∧ 1000 ≤ R.locals ∧ 1 ≤ R.cells ∧ 6 ≤ R.slots) {x0 x5 x6 : Option Value} (h : rsR a b cc w = none) : lj p l e R s mid args below meth c D cas b0 ad A 7 0 0 (vx_MQ below Qc (rx_X D cas b0 A m) args s 1 6 A) (0, [x0, some (.int a), some (.int b), some (.int cc), some (.int w), x5, x6], [], m) := by
  have thr : lj p l e R s mid args below meth c D cas b0 ad A 7 0 0 (vx_MQ below Qc (rx_X D cas b0 A m) args s 1 6 A) (27, [x0, some (.int a), some (.int b), some (.int cc), some (.int w), x5, x6], [], m) := rx_throw hx hl hE hout hlocks ⟨by omega, by omega, hR.2.2⟩ dX9_rests_27 dX9_rests_30 dX9_rests_31 dX9_rests_34
  have tr : ∀ q : Bool, ¬ ur_b q = 0 → q = true := fun q => by cases q with
    | true => exact fun _ => rfl
    | false => exact fun y => absurd rfl y
  refine lj_iload_n hx dX9_rests_0 rfl (lj_stat (d := 0) (As := [.int a]) (r := []) (v := (ur_b (rsP a), m)) hx rx_prize rfl (by decide) u_isPrize rfl hm rfl (by omega) (by omega) (by omega) (by omega) (by decide) dX9_rests_1 (lj_ifeq hx dX9_rests_4 (x := 27) rfl (fun _ => thr) (fun ya => ?_)))
  refine lj_iload_n hx dX9_rests_7 rfl (lj_stat (d := 0) (As := [.int b]) (r := []) (v := (ur_b (rsP b), m)) hx rx_prize rfl (by decide) u_isPrize rfl hm rfl (by omega) (by omega) (by omega) (by omega) (by decide) dX9_rests_8 (lj_ifeq hx dX9_rests_11 (x := 27) rfl (fun _ => thr) (fun yb => ?_)))
  refine lj_iload_n hx dX9_rests_14 rfl (lj_stat (d := 0) (As := [.int cc]) (r := []) (v := (ur_b (rsP cc), m)) hx rx_prize rfl (by decide) u_isPrize rfl hm rfl (by omega) (by omega) (by omega) (by omega) (by decide) dX9_rests_15 (lj_ifeq hx dX9_rests_18 (x := 27) rfl (fun _ => thr) (fun yc => ?_)))
  refine lj_iload hx dX9_rests_21 rfl (lj_iconst (v := -1) hx dX9_rests_23 rfl (lj_icmp_ge hx dX9_rests_24 (x := 35) rfl (fun yw => ?_) (fun _ => thr)))
  have h : rsE w (rsF a b cc w 4 0 0) = none := by
    unfold rsR rsO at h
    rw [tr _ ya, tr _ yb, tr _ yc, decide_eq_true yw] at h
    exact h
  refine lj_iconst (v := 0) hx dX9_rests_35 rfl (lj_istore hx dX9_rests_36 (show 5 < 7 by decide) (lj_iconst (v := 0) hx dX9_rests_38 rfl (lj_istore hx dX9_rests_39 (show 6 < 7 by decide) ?_)))
  exact rx_loop hx hl hE hout hlocks hm hR (x0 := x0) 4 0 0 rfl h
end URTH

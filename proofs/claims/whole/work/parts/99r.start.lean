/-! THE LAW'S START -/
theorem st_arr {ty : FieldType} {args : Array Value} {s : State} (h : (Cond.arrayClass ty).before args s = true) : ∃ cA, ArrOfT s cA ty ∧ s.vm.findClass ("[" ++ ty.toString) = some cA := by
  obtain ⟨cA, k, comp, h1, h2, h3⟩ := Cond.arrayClass_spec h
  exact ⟨cA, fun n z => ⟨fun k h => (by cases h), k, h2, comp, h3⟩, h1⟩
theorem st_ovr {C : String} {s : State} (h : va_AO C s) : ∃ cA, ArrOfT s cA (.object C) ∧ va_RA s cA (.object C) := by
  obtain ⟨comp, cA, k, h1, h2, h3, h4, h5⟩ := Cond.arrayOver_spec h
  exact ⟨cA, fun n z => ⟨fun k h => (by cases h), k, h3, comp, h4⟩, k, comp, h3, h4, h1, h5⟩
theorem st_K {args : Array Value} {s : State} (hts : ∀ w ∈ ur_T, w.before args s = true) (hN : va_AO "UnsaidRoom$Night" s) (hM : va_AO "UnsaidRoom$Mark" s) : ∃ (D : va_G) (cas : Nat → ClassId), va_K D vwCl (ur_tys cas) s := by
  have hk : ∀ k : Nat, ∃ x : ClassId × (Nat → Nat), ∀ q, vwCl[k]? = some q → u_Kn s q.1 q.2.1 q.2.2 x.1 x.2 := fun k => by
    cases e : vwCl[k]? with
    | none => exact ⟨(0, fun _ => 0), fun q h => by cases h⟩
    | some q =>
      obtain ⟨c1, -, -, -, c6, -⟩ := ur_cls k q.1 q.2.1 q.2.2 e
      obtain ⟨cC, iS, h⟩ := u_known (C := q.1) (T := q.2.1) (N := q.2.2) hts c1 (hts _ c6)
      exact ⟨(cC, iS), fun q' h' => by cases h'; exact h⟩
  obtain ⟨D, hD⟩ := Classical.axiomOfChoice hk
  obtain ⟨a0, r0, n0⟩ := st_arr (hts _ ur_w0.2.2.1)
  obtain ⟨a1, r1, n1⟩ := st_arr (hts _ ur_w0.2.2.2.1)
  obtain ⟨a2, r2, n2⟩ := st_arr (hts _ ur_w0.2.2.2.2.1)
  obtain ⟨a3, r3, n3⟩ := st_arr (hts _ ur_w0.2.2.2.2.2.1)
  obtain ⟨a4, r4, n4⟩ := st_ovr hN
  obtain ⟨a5, r5, n5⟩ := st_ovr hM
  refine ⟨(fun k => (D k).1, fun k => (D k).2), fun k => match k with
    | 0 => a0
    | 1 => a1
    | 2 => a2
    | 3 => a3
    | 4 => a4
    | _ => a5, fun k q h => hD k q h, fun k q h => ?_⟩
  match k, h with
  | 0, h => cases h; exact ⟨r0, n0⟩
  | 1, h => cases h; exact ⟨r1, n1⟩
  | 2, h => cases h; exact ⟨r2, n2⟩
  | 3, h => cases h; exact ⟨r3, n3⟩
  | 4, h => cases h; exact ⟨r4, n4⟩
  | 5, h => cases h; exact ⟨r5, n5⟩
  | k + 6, h => simp [ur_tys] at h
def st_F : List Cond := flatC (Jvm.Cond.and given_1 narrow_1)
def st_t (i : Nat) : Term := match i with
  | 0 => .string "UnsaidRoom$Tape" 54
  | 1 => .string "UnsaidRoom$Tape" 40
  | _ => .string "UnsaidRoom$Law" 46
theorem st_m1 : (List.range 3).all (fun i => decide (ur_lns.getD i 0 < 2 ^ 31) && (decide (Cond.exactly (st_t i) "java/lang/String" ∈ st_F) && (decide (Cond.eq (.field (st_t i) "java/lang/String" "coder" "B") (.int 0) ∈ st_F) && (decide (Cond.arrayOf (.field (st_t i) "java/lang/String" "value" "[B") .byte ∈ st_F) && decide (Cond.eq (.length (.field (st_t i) "java/lang/String" "value" "[B")) (.int (Int32.ofNat (ur_lns.getD i 0))) ∈ st_F))))) = true := by decide +kernel
theorem st_m2 : (List.range 3).all (fun i => (List.range (ur_lns.getD i 0)).all (fun j => decide (Cond.eq (.elem (.field (st_t i) "java/lang/String" "value" "[B") (.int (Int32.ofNat j))) (.int ((ur_byt.getD i []).getD j 0)) ∈ st_F))) = true := by decide +kernel
theorem st_m3 : (List.range 3).all (fun i => (List.range 3).all (fun j => decide (i = j) || (decide (Cond.not (Cond.eq (st_t i) (st_t j)) ∈ st_F) || decide (Cond.not (Cond.eq (st_t j) (st_t i)) ∈ st_F)))) = true := by decide +kernel
theorem st_str {args : Array Value} {s : State} (hs : ∀ w ∈ st_F, w.before args s = true) : ∃ adK adV : Nat → Nat, vk_S 3 ur_lns ur_byt adK adV (lwA s) s s.heap ∧ ∀ i : Nat, i < 3 → (st_t i).eval args s none [] s = some (.ref (adK i)) := by
  have m1 : ∀ i, i < 3 → _ := fun i hi => List.all_eq_true.mp st_m1 i (List.mem_range.mpr hi)
  have m2 : ∀ i, i < 3 → ∀ j, j < ur_lns.getD i 0 → _ := fun i hi j hj => List.all_eq_true.mp (List.all_eq_true.mp st_m2 i (List.mem_range.mpr hi)) j (List.mem_range.mpr hj)
  have m3 : ∀ i, i < 3 → ∀ j, j < 3 → _ := fun i hi j hj => List.all_eq_true.mp (List.all_eq_true.mp st_m3 i (List.mem_range.mpr hi)) j (List.mem_range.mpr hj)
  simp only [Bool.and_eq_true, Bool.or_eq_true, decide_eq_true_eq] at m1 m2 m3
  refine vk_Sof (tm := st_t) (fun i hi => (m1 i hi).1) (fun i hi => hs _ (m1 i hi).2.1) (fun i hi => hs _ (m1 i hi).2.2.1) (fun i hi => hs _ (m1 i hi).2.2.2.1) (fun i hi => hs _ (m1 i hi).2.2.2.2) (fun i hi j hj => hs _ (m2 i hi j hj)) (fun i j hi hj hne => ?_) (fun a ha h => absurd ha (Nat.not_lt.mpr h))
  rcases m3 i hi j hj with h | h | h
  · exact absurd h hne
  · exact Or.inl (hs _ h)
  · exact Or.inr (hs _ h)
theorem st_w : Cond.stringRef "UnsaidRoom$Tape" 54 "room unsaid holds door person age in stays walk show speak burn minute guest wife child taxman not and or " ∈ lw_tbl ∧ Cond.stringRef "UnsaidRoom$Tape" 40 "()<=+-*;" ∈ lw_tbl ∧ Cond.stringRef "UnsaidRoom$Law" 46 "much times years nods " ∈ lw_tbl ∧ Cond.laysStatic "java/lang/String" "COMPACT_STRINGS" "Z" ∈ lw_tbl ∧ Cond.initialized "java/lang/String" ∈ lw_tbl ∧ Cond.laysStatic "jdk/internal/util/Preconditions" "SIOOBE_FORMATTER" "Ljava/util/function/BiFunction;" ∈ lw_tbl ∧ Cond.initialized "jdk/internal/util/Preconditions" ∈ lw_tbl ∧ Cond.arrayOver (.object "UnsaidRoom$Night") ∈ lw_tbl ∧ Cond.arrayOver (.object "UnsaidRoom$Mark") ∈ lw_tbl := by decide +kernel
theorem st_x : Cond.laysStatic Bundle.tN "UNASSIGNED_STACK" Bundle.steD ∈ lw_tbl ∧ Cond.laysStatic Bundle.tN "SUPPRESSED_SENTINEL" Bundle.listD ∈ lw_tbl ∧ Cond.initialized Bundle.tN ∈ lw_tbl ∧ (∀ w ∈ rx_B, w ∈ lw_tbl) := by decide +kernel
theorem st_f : Cond.eq (.static "java/lang/String" "COMPACT_STRINGS" "Z") (.int 1) ∈ st_F ∧ Cond.isRef (.static "jdk/internal/util/Preconditions" "SIOOBE_FORMATTER" "Ljava/util/function/BiFunction;") ∈ st_F ∧ Cond.isRef (.static Bundle.tN "UNASSIGNED_STACK" Bundle.steD) ∈ st_F ∧ Cond.isRef (.static Bundle.tN "SUPPRESSED_SENTINEL" Bundle.listD) ∈ st_F := by decide +kernel
theorem st_E {args : Array Value} {s : State} (hts : ∀ w ∈ lw_tbl, w.before args s = true) (hs : ∀ w ∈ st_F, w.before args s = true) : rx_E (lwA s) s := by
  have hA : ∀ a : Nat, a < s.heap.size → ¬ lwA s a := fun a ha h => absurd ha (Nat.not_lt.mpr h)
  refine ⟨fun w hw => ?_, vx_Zqof (hts _ st_x.1) (hts _ st_x.2.2.1) (hs _ st_f.2.2.1) hA, vx_Zqof (hts _ st_x.2.1) (hts _ st_x.2.2.1) (hs _ st_f.2.2.2) hA⟩
  have h := hts w (st_x.2.2.2 w hw)
  simp only [rx_B, List.mem_cons, List.not_mem_nil, or_false] at hw
  rcases hw with rfl | rfl | rfl | rfl <;> exact va_Nw.of rfl h
theorem st_Old {b : Nat} {s : State} (hts : ∀ w ∈ lw_tbl, w.before #[.ref b] s = true) (hs : ∀ w ∈ st_F, w.before #[.ref b] s = true) : ∃ ad : Nat → Value, ur_ado ad ∧ ad 50 = .ref b ∧ ur_Old ad (lwA s) s := by
  have hA : ∀ a : Nat, a < s.heap.size → ¬ lwA s a := fun a ha h => absurd ha (Nat.not_lt.mpr h)
  obtain ⟨adK, adV, h1, h2⟩ := st_str hs
  obtain ⟨w1, w2, w3, w4, w5, w6, w7, w8, w9⟩ := st_w
  have hz : ∃ v : Value, (v = .null ∨ ∃ q, v = .ref q) ∧ va_Z "jdk/internal/util/Preconditions" "SIOOBE_FORMATTER" "Ljava/util/function/BiFunction;" v (lwA s) s s.heap := by
    rcases va_Zqof (hts _ w6) (hts _ w7) (hs _ st_f.2.1) hA with h | ⟨t, h⟩
    · exact ⟨.null, Or.inl rfl, h⟩
    · exact ⟨.ref t, Or.inr ⟨t, rfl⟩, h⟩
  obtain ⟨v, hv, hz⟩ := hz
  refine ⟨fun j => if j < 3 then .ref (adK j) else if j < 13 then .ref (adV (j - 10)) else if j = 20 then v else .ref b, fun j => ?_, rfl, adK, adV, fun j hj => ⟨by show (if j < 3 then _ else _) = _; rw [if_pos hj], ?_⟩, h1, ⟨vk_R.of (hts _ w1) (h2 0 (by decide)), vk_R.of (hts _ w2) (h2 1 (by decide)), vk_R.of (hts _ w3) (h2 2 (by decide))⟩, va_Zof (hts _ w4) (hts _ w5) (va_eqt (hs _ st_f.1)) hA, hz, fun w hw => ?_, va_AO.of (hts _ w8), va_AO.of (hts _ w9)⟩
  · by_cases g1 : j < 3
    · exact Or.inr ⟨adK j, by show (if j < 3 then _ else _) = _; rw [if_pos g1]⟩
    · by_cases g2 : j < 13
      · exact Or.inr ⟨adV (j - 10), by show (if j < 3 then _ else _) = _; rw [if_neg g1, if_pos g2]⟩
      · by_cases g3 : j = 20
        · rcases hv with h | ⟨q, h⟩
          · exact Or.inl (by show (if j < 3 then _ else _) = _; rw [if_neg g1, if_neg g2, if_pos g3, h])
          · exact Or.inr ⟨q, by show (if j < 3 then _ else _) = _; rw [if_neg g1, if_neg g2, if_pos g3, h]⟩
        · exact Or.inr ⟨b, by show (if j < 3 then _ else _) = _; rw [if_neg g1, if_neg g2, if_neg g3]⟩
  · show (if 10 + j < 3 then _ else _) = _
    rw [if_neg (by omega), if_pos (by omega), show 10 + j - 10 = j by omega]
  · have h9 := hts w (List.mem_filter.mp hw).1
    have h10 := (List.mem_filter.mp hw).2
    cases w <;> simp at h10
    exact va_Nw.of rfl h9

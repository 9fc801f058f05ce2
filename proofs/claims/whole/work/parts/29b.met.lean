/-! a call of the pure machine gives the method's contract -/
theorem ur_snd (l : Launch) {D : va_G} {cas : Nat → ClassId} {b0 : Nat} {ad : Nat → Value} (had : ur_ado ad) (n : Nat) : ur_IH l ur_G ur_N D cas b0 ad n := ur_sound had ur_cls (fun k pc i n x v h => ur_allE k pc i n x v h) n
theorem ur_okN {y : Nat} (h : y < 267) : ur_okM ur_G ur_N y := (ur_allM y h).1
theorem ur_callMet (l : Launch) {D : va_G} {cas : Nat → ClassId} {b0 : Nat} {ad : Nat → Value} (had : ur_ado ad) {d y sz : Nat} {as : List Value} {m : ur_M} {res : ur_V} (hy : y < 267) (h : ur_call ur_G (d + 1) y as m = some res) (hb0 : b0 ≤ sz) (hm : m.1.length ≤ 1000) (hZ : sz = b0 + m.1.length ∨ res.2.1.length = m.1.length) : Met l (ur_N y).1 (Cond.code (ur_N y).1 (ur_N y).2.1 (ur_G y).2.2.1 (ur_N y).2.2 :: ur_T) ({ frames := d + 1, cells := res.2.1.length - m.1.length, slots := ur_sl res.2.1 - ur_sl m.1, locals := 64 * (d + 1) }) (va_Pc (as.map (ur_cv b0 ad)) (fun U => U.heap.size = sz ∧ va_P D vwCl (ur_ws b0 cas m) U.heap ∧ va_K D vwCl (ur_tys cas) U ∧ ur_Old ad (va_A (ur_ws b0 cas m) sz) U)) (ur_Qc D cas b0 (va_A (ur_ws b0 cas m) sz) (ur_N y).2.2 res) (res.2.1.length - m.1.length) (ur_sl res.2.1 - ur_sl m.1) (va_A (ur_ws b0 cas m) sz) ∧ ur_rcv (ur_G y) as m = true ∧ ur_le m res.2 := by
  obtain ⟨n, hn⟩ := ur_call_iff.mp h
  obtain ⟨g1, g2⟩ := ur_cond_t hn
  simp only [Bool.and_eq_true] at g1
  exact ⟨ur_met had (ur_snd l had n) (ur_okN hy) g2 (Nat.le_of_ble_eq_true g1.2) hb0 hm hZ, g1.1, ur_grow ur_G n d y _ res g2⟩

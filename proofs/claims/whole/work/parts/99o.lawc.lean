/-! THE LAW'S CASES: what they share -/
abbrev lwL (i : Int32) (x5 x6 : Option Value) : List (Option Value) := [some (.ref 2050), some (.ref 0), some (.ref 208), some (.ref 251), some (.int i), x5, x6]
abbrev lwA (s : State) : Nat → Prop := fun q => s.heap.size ≤ q
def lwC (p : Program) (l : Launch) (s : State) (mid : MethodId) (b : Nat) (c : Code) (D : va_G) (cas : Nat → ClassId) (ad : Nat → Value) (L : Nat) (xs : Nat → Int32) : Prop := lc p s mid #[.ref b] c D cas s.heap.size ad (lwA s) 7 code RL ∧ va_X b L xs s s.heap ∧ b < s.heap.size ∧ ur_cv s.heap.size ad (.ref 2050) = .ref b ∧ rx_E (lwA s) s ∧ l.stackTraces = false
abbrev lwJ (p : Program) (l : Launch) (e : Env) (s : State) (mid : MethodId) (b : Nat) (below : List Frame) (meth : Method) (c : Code) (D : va_G) (cas : Nat → ClassId) (ad : Nat → Value) (Cn Sn : Nat) (Q : State → Prop) (pc : Nat) (ls : List (Option Value)) (st : List Value) (m : ur_M) : Prop := lj p l e room_1 s mid #[.ref b] below meth c D cas s.heap.size ad (lwA s) 7 Cn Sn Q (pc, ls, st, m)
section URLO
variable {p : Program} {l : Launch} {e : Env} {R : Room} {s : State} {mid : MethodId} {args : Array Value} {below : List Frame} {meth : Method} {c : Code} {D : va_G} {cas : Nat → ClassId} {b0 : Nat} {ad : Nat → Value} {A : Nat → Prop} {Q : State → Prop} {nL Cn Sn Cm Sm : Nat} {b L : Nat} {xs : Nat → Int32}
variable {pc : Nat} {ls : List (Option Value)} {st r : List Value} {m : ur_M} {x a1 a2 a3 a4 i : Int32} {cd : ByteArray} {S : ur_S}
theorem lj_mono (hC : Cn ≤ Cm) (hS : Sn ≤ Sm) (h : lj p l e R s mid args below meth c D cas b0 ad A nL Cm Sm Q S) : lj p l e R s mid args below meth c D cas b0 ad A nL Cn Sn Q S :=
  fun lsr H locs cells slots hl h0 hP hD hS' h2 h3 => h lsr H locs cells slots hl h0 hP hD hS' (Nat.le_trans h2 hC) (Nat.le_trans h3 hS)
theorem lr_M1 (m : ur_M) (o : Option Int32) : (lr_M m o).1 = m.1 := by cases o <;> rfl
theorem lj_rests (hx : lc p s mid args c D cas b0 ad A nL cd RL) (hl : l.stackTraces = false) (hE : rx_E A s) (hm : m.1.length ≤ 1000) (hX : ur_isO m 0 9 = true) (ho : m.1[251]? = some (.inr (1, 1))) (hR1 : 21 ≤ R.frames) (hR2 : 2026 ≤ R.locals) (hC : Cn + 1 ≤ R.cells) (hSn : Sn + 6 ≤ R.slots) (hr : ur_cs r ≤ 8) (hdg : decode cd pc = .ok (.invokestatic 173, 3)) (hs : lj p l e R s mid args below meth c D cas b0 ad A nL (Cn + 1) (Sn + 6) Q (pc + 3, ls, .int (rsT (rsR a1 a2 a3 a4)) :: r, lr_M m (rsR a1 a2 a3 a4))) : lj p l e R s mid args below meth c D cas b0 ad A nL Cn Sn Q (pc, ls, .ref 251 :: .int a4 :: .int a3 :: .int a2 :: .int a1 :: .ref 0 :: r, m) := by
  intro lsr H locs cells slots hl3 h0 hP hD hS q2 q3
  have hP : va_P D vwCl (ur_ws b0 cas m) H := hP
  have hD : va_D A (ur_ws b0 cas m) := hD
  have had := hx.2.2.2.2.2.2.2.2.2
  have hpre := rx_pre (as := ([.ref 0, .int a1, .int a2, .int a3, .int a4, .ref 251] : List Value).map (ur_cv b0 ad)) hx hE hP hD hS
  have hG : GoodIn ur_T (va_wsS RL 173 yL_rests lr_ws) := by
    intro w hw
    have : w ∈ ur_T := by
      unfold va_wsS lr_ws at hw
      simp only [List.cons_append, List.nil_append, List.mem_cons] at hw
      rcases hw with rfl | rfl | rfl | rfl | hw
      · exact lw_w_rl
      · exact lw_w_rs
      · exact lw_w_ri
      · exact lw_w_rc
      · exact hw
    exact ⟨this, ur_T_good this⟩
  have hsub : ∀ q, va_A (ur_ws b0 cas m) H.size q → A q := by
    rintro q (⟨j, w, hj⟩ | hq)
    · exact hD.2 j _ hj
    · exact hx.2.2.2.2.2.2.2.1 q (Nat.le_trans hS.1 hq)
  have hrun := vx_runSX (e := e) (below := below) (meth := meth) (hh := [(0, 14, 17, 13)]) (As := ([.ref 0, .int a1, .int a2, .int a3, .int a4, .ref 251] : List Value).map (ur_cv b0 ad)) (rest := r.map (ur_cv b0 ad)) (H := H) (locs := locs) (cells := cells) (slots := slots) (g := F0 mid pc lsr ((.ref 251 :: .int a4 :: .int a3 :: .int a2 :: .int a1 :: .ref 0 :: r).map (ur_cv b0 ad))) ⟨hx.1, hx.2.1, hx.2.2.1, hx.2.2.2.1, hx.2.2.2.2.1⟩ (lr_met (D := D) (cas := cas) (b0 := b0) (sz := H.size) (a := a1) (b := a2) (cc := a3) (w := a4) l hl had hm (Nat.le_trans hx.2.2.2.2.2.2.2.2.1 hS.1) hX ho) (vx_cwSW (R := R) 6 hx.2.2.2.2.1 hG rfl rfl rfl ⟨by decide, by decide, by decide⟩ ⟨by show 20 + 1 ≤ _; omega, by show 8 + (7 + 11) + 2000 ≤ _; omega⟩) hpre rfl rfl (hl3.1.trans h0) rfl (lv_room (by rw [ur_cs_map had]; exact hr)) hdg ⟨by omega, by omega⟩
  refine vx_calli (A0 := A) (H0 := s.heap) hrun hS (fun q _ h => hsub q h) hsub (fun q _ h => hsub q h) (fun E ce q9 u t H1 locs1 ht hvm hp => absurd hp (fun y => y)) (fun v u t H1 locs1 ht hvm hp hB hz hk hS1 => ?_)
  have hp : v = rsT (rsR a1 a2 a3 a4) := hp
  subst hp
  have hB : va_P D vwCl (ur_ws b0 cas (lr_M m (rsR a1 a2 a3 a4))) t.heap := hB
  rw [ht] at hB
  exact hs lsr H1 locs1 _ _ hl3 h0 hB (ur_D (fun q hq => hD.2 q _ (ur_ws_at (by rw [lr_M1] at hq; exact hq)))) hS1 (by omega) (by omega)
theorem lw_arg {k : Int} (hC : lwC p l s mid b c D cas ad L xs) {kv : Int32} (d0 : decode code pc = .ok (.aload_n 0, 1)) (d1 : decode code (pc + 1) = .ok (.iload 4, 2)) (d2 : decode code (pc + 3) = .ok (.iconst k, 1)) (hk : Int32.ofInt k = kv) (d3 : decode code (pc + 4) = .ok (.iadd, 1)) (d4 : decode code (pc + 5) = .ok (.iaload, 1)) (h0 : ur_ld ls (0 : Fin 4) = some (.ref 2050)) (h4 : ur_ld ls 4 = some (.int i)) (hin : vp_in (i + kv) L) (hs : lwJ p l e s mid b below meth c D cas ad Cn Sn Q (pc + 6) ls (.int (xs (i + kv).toNatClampNeg) :: st) m) : lwJ p l e s mid b below meth c D cas ad Cn Sn Q pc ls st m :=
  lj_aload_n hC.1 d0 h0 (lj_iload hC.1 d1 h4 (lj_iconst hC.1 d2 hk (lj_iadd hC.1 d3 (lj_sld hC.1 hC.2.1 hC.2.2.1 (Nat.not_le.mpr hC.2.2.1) hC.2.2.2.1 hin d4 hs))))
theorem lw_arg6 {k : Int} (hC : lwC p l s mid b c D cas ad L xs) {kv : Int32} (d0 : decode code pc = .ok (.aload_n 0, 1)) (d1 : decode code (pc + 1) = .ok (.iload 4, 2)) (d2 : decode code (pc + 3) = .ok (.bipush k, 2)) (hk : (Int8.ofInt k).toInt32 = kv) (d3 : decode code (pc + 5) = .ok (.iadd, 1)) (d4 : decode code (pc + 6) = .ok (.iaload, 1)) (h0 : ur_ld ls (0 : Fin 4) = some (.ref 2050)) (h4 : ur_ld ls 4 = some (.int i)) (hin : vp_in (i + kv) L) (hs : lwJ p l e s mid b below meth c D cas ad Cn Sn Q (pc + 7) ls (.int (xs (i + kv).toNatClampNeg) :: st) m) : lwJ p l e s mid b below meth c D cas ad Cn Sn Q pc ls st m :=
  lj_aload_n hC.1 d0 h0 (lj_iload hC.1 d1 h4 (lj_bipush hC.1 d2 hk (lj_iadd hC.1 d3 (lj_sld hC.1 hC.2.1 hC.2.2.1 (Nat.not_le.mpr hC.2.2.1) hC.2.2.2.1 hin d4 hs))))
theorem lj_sel (sw : List (Int32 × Nat)) (d : Nat) (w : Int32) (h : ∀ q ∈ sw, lj p l e R s mid args below meth c D cas b0 ad A nL Cn Sn Q (q.2, ls, st, m)) (hd : lj p l e R s mid args below meth c D cas b0 ad A nL Cn Sn Q (d, ls, st, m)) : lj p l e R s mid args below meth c D cas b0 ad A nL Cn Sn Q (ur_sel sw d w, ls, st, m) := by
  have key : ur_sel sw d w = d ∨ ∃ q ∈ sw, ur_sel sw d w = q.2 := by
    clear h
    induction sw with
    | nil => exact Or.inl rfl
    | cons q t ih =>
      unfold ur_sel
      by_cases e : w = q.1
      · refine Or.inr ⟨q, List.mem_cons_self, ?_⟩
        simp [e]
      · rcases ih with h | ⟨z, h1, h2⟩
        · refine Or.inl ?_
          simp [e, h]
        · refine Or.inr ⟨z, List.mem_cons_of_mem _ h1, ?_⟩
          simp [e, h2]
  rcases key with h1 | ⟨q, h1, h2⟩
  · rw [h1]; exact hd
  · rw [h2]; exact h q h1
end URLO

/-! MEMORY ONLY GROWS -/
def ur_le (m m' : ur_M) : Prop := m.1.length ≤ m'.1.length ∧ ur_sl m.1 ≤ ur_sl m'.1
def ur_gA (m : ur_M) (o : Option ur_A) : Prop := match o with
  | none => True
  | some (.inl (bs, s)) => (∀ q ∈ bs, q.2.2.2.2 = m) ∧ s.2.2.2 = m
  | some (.inr (.inl r)) => ∀ v, r = some v → v.2 = m
  | some (.inr (.inr (.inl (_, _, m', f)))) => m' = m ∧ ∀ v m2, (f v m2).2.2.2 = m2
  | some (.inr (.inr (.inr (.inl (_, f))))) => ∀ v, (f v).2.2.2 = m
  | some (.inr (.inr (.inr (.inr (.inl (_, f)))))) => ∀ v, (f v).2.2.2 = m
  | some (.inr (.inr (.inr (.inr (.inr (.inl (_, f))))))) => ∀ v, (f v).2.2.2 = m
  | some (.inr (.inr (.inr (.inr (.inr (.inr (o, f))))))) => (∀ m', o = some m' → ur_le m m') ∧ ∀ m', (f m').2.2.2 = m'
section URG
variable {m m' : ur_M} {a ci k t n x pc : Nat} {i v : Int32} {ls : List (Option Value)} {st : List Value}
theorem ur_le_same (h : m'.1 = m.1) : ur_le m m' := by unfold ur_le; rw [h]; exact ⟨Nat.le_refl _, Nat.le_refl _⟩
theorem ur_le_push {z : Nat ⊕ (Nat × Nat)} (h : m'.1 = m.1 ++ [z]) : ur_le m m' := by
  unfold ur_le; rw [h, ur_sl_app, List.length_append]; exact ⟨Nat.le_add_right _ _, Nat.le_add_right _ _⟩
theorem ur_g_nx : ur_gA m (ur_nx pc ls st m) := ⟨fun _ h => (by cases h), rfl⟩
theorem ur_g_pI (h : ur_pI m a ci k v = some m') : ur_le m m' := by
  obtain ⟨-, h⟩ := ur_cond_t h; cases h; exact ur_le_same rfl
theorem ur_g_pZ (h : ur_pZ m a ci k v = some m') : ur_le m m' := by
  obtain ⟨-, h⟩ := ur_cond_t h; exact ur_g_pI h
theorem ur_g_pL {v : Int64} (h : ur_pL m a ci k v = some m') : ur_le m m' := by
  obtain ⟨-, h⟩ := ur_cond_t h; cases h; exact ur_le_same rfl
theorem ur_g_pR {v : Nat} (h : ur_pR m a ci k v = some m') : ur_le m m' := by
  obtain ⟨-, h⟩ := ur_cond_t h; cases h; exact ur_le_same rfl
theorem ur_g_wI (h : ur_wI m a t i v = some m') : ur_le m m' := by
  unfold ur_wI at h; split at h
  · obtain ⟨-, h⟩ := ur_cond_t h; cases h; exact ur_le_same rfl
  · cases h
theorem ur_g_wL {v : Int64} (h : ur_wL m a i v = some m') : ur_le m m' := by
  unfold ur_wL at h; split at h
  · obtain ⟨-, h⟩ := ur_cond_t h; cases h; exact ur_le_same rfl
  · cases h
theorem ur_g_wR {v : Nat} (h : ur_wR m a i v = some m') : ur_le m m' := by
  unfold ur_wR at h; split at h
  · obtain ⟨-, h⟩ := ur_cond_t h; cases h; exact ur_le_same rfl
  · cases h
theorem ur_g_cpy {b : Nat} {j w : Int32} (h : ur_cpy m a i b j w = some m') : ur_le m m' := by
  unfold ur_cpy at h; split at h
  · obtain ⟨-, h⟩ := ur_cond_t h; cases h; exact ur_le_same rfl
  · cases h
theorem ur_g_nA (h : ur_nA m t i = some m') : ur_le m m' := by
  obtain ⟨-, h⟩ := ur_cond_t h; cases h; exact ur_le_push rfl
theorem ur_g_nO (h : ur_nO m ci = some m') : ur_le m m' := by
  obtain ⟨-, h⟩ := ur_cond_t h; cases h; exact ur_le_push rfl
theorem ur_g_lib0 : ur_gA m (ur_lib0 pc ls st m) := by
  unfold ur_lib0
  split
  · rename_i r
    cases Nat.ble (ur_cs r) 8 with
    | true => exact ⟨fun _ h => ur_g_cpy h, fun _ => rfl⟩
    | false => trivial
  · trivial
theorem ur_g_lib1 : ur_gA m (ur_lib1 pc ls st m) := by
  unfold ur_lib1
  split
  · rename_i a r
    cases (Nat.ble (ur_cs r) 8 && decide (a < ur_base)) with
    | true => exact ur_g_nx
    | false => trivial
  · trivial
theorem ur_g_lib2 {f : Int32 → Int32 → Int32} : ur_gA m (ur_lib2 f pc ls st m) := by
  unfold ur_lib2
  split
  · rename_i r
    cases Nat.ble (ur_cs r) 8 with
    | true => exact ur_g_nx
    | false => trivial
  · trivial
theorem ur_gcd {b : Bool} {x y : Option ur_A} (hx : ur_gA m x) (hy : ur_gA m y) : ur_gA m (bif b then x else y) := by cases b <;> assumption
theorem ur_g_lib : ur_gA m (ur_lib x pc ls st m) := by
  unfold ur_lib
  exact ur_gcd ur_g_lib0 (ur_gcd ur_g_lib1 (ur_gcd ur_g_lib2 (ur_gcd ur_g_lib2 trivial)))
theorem ur_g_inv : ur_gA m (ur_inv x pc ls st m) := by
  unfold ur_inv
  exact ur_gcd (ur_gcd ⟨rfl, fun _ _ => rfl⟩ trivial) ur_g_lib
theorem ur_g_sti : ur_gA m (ur_sti k n pc ls st m) := by
  unfold ur_sti
  split
  · cases Nat.blt k ls.length with
    | true => exact ur_g_nx
    | false => trivial
  · trivial
theorem ur_g_sta : ur_gA m (ur_sta k n pc ls st m) := by
  unfold ur_sta
  split
  · cases Nat.blt k ls.length with
    | true => exact ur_g_nx
    | false => trivial
  · trivial
theorem ur_g_stl : ur_gA m (ur_stl k n pc ls st m) := by
  unfold ur_stl
  split
  · cases Nat.blt (k + 1) ls.length with
    | true => exact ur_g_nx
    | false => trivial
  · trivial
theorem ur_g_if1 {c : ClassFile.Cond} : ur_gA m (ur_if1 c x pc ls st m) := by
  unfold ur_if1
  split
  · exact ⟨fun q h => (by rw [List.mem_singleton.mp h]), rfl⟩
  · trivial
theorem ur_g_if2 {c : ClassFile.Cond} : ur_gA m (ur_if2 c x pc ls st m) := by
  unfold ur_if2
  split
  · exact ⟨fun q h => (by rw [List.mem_singleton.mp h]), rfl⟩
  · trivial
theorem ur_g_ald {f : ur_M → Nat → Int32 → Option Int32} : ur_gA m (ur_ald f pc ls st m) := by
  unfold ur_ald
  split
  · exact fun _ => rfl
  · trivial
theorem ur_g_ast {f : ur_M → Nat → Int32 → Int32 → Option ur_M} (hf : ∀ a i v m', f m a i v = some m' → ur_le m m') : ur_gA m (ur_ast f pc ls st m) := by
  unfold ur_ast
  split
  · exact ⟨fun _ h => hf _ _ _ _ h, fun _ => rfl⟩
  · trivial
theorem ur_g_getf : ur_gA m (ur_getf x pc ls st m) := by
  unfold ur_getf
  split
  · split <;> exact fun _ => rfl
  · trivial
theorem ur_g_putf : ur_gA m (ur_putf x pc ls st m) := by
  unfold ur_putf
  split
  · split
    · exact ⟨fun _ h => ur_g_pI h, fun _ => rfl⟩
    · trivial
  · split
    · exact ⟨fun _ h => ur_g_pZ h, fun _ => rfl⟩
    · trivial
  · split
    · exact ⟨fun _ h => ur_g_pL h, fun _ => rfl⟩
    · trivial
  · split
    · exact ⟨fun _ h => ur_g_pR h, fun _ => rfl⟩
    · trivial
theorem ur_g_sw {sw : List (Int32 × Nat) × Nat} : ur_gA m (match st with
    | .int a :: r => some (.inl (sw.1.map (fun q => (decide (a = q.1), (q.2, ls, r, m))), (sw.2, ls, r, m)))
    | _ => none) := by
  split
  · refine ⟨fun q h => ?_, rfl⟩
    obtain ⟨_, _, e⟩ := List.mem_map.mp h
    rw [← e]
  · trivial
theorem ur_g_ldi : ur_gA m (ur_ldi k n pc ls st m) := by
  unfold ur_ldi
  split
  · exact ur_g_nx
  · trivial
theorem ur_g_ldl : ur_gA m (ur_ldl k n pc ls st m) := by
  unfold ur_ldl
  split
  · exact ur_g_nx
  · trivial
theorem ur_g_lda : ur_gA m (ur_lda k n pc ls st m) := by
  unfold ur_lda
  split
  · exact ur_g_nx
  · trivial
theorem ur_g_bi {f : Int32 → Int32 → Int32} : ur_gA m (ur_bi f pc ls st m) := by
  unfold ur_bi
  split
  · exact ur_g_nx
  · trivial
theorem ur_g_bl {f : Int64 → Int64 → Int64} : ur_gA m (ur_bl f pc ls st m) := by
  unfold ur_bl
  split
  · exact ur_g_nx
  · trivial
theorem ur_g_i1 {f : Int32 → Value} : ur_gA m (ur_i1 f pc ls st m) := by
  unfold ur_i1
  split
  · exact ur_g_nx
  · trivial
theorem ur_g_iinc {c : Int32} : ur_gA m (match ur_ld ls k with
    | some (.int a) => bif Nat.blt k ls.length then ur_nx (pc + n) (ur_st1 ls k (.int (a + c))) st m else none
    | _ => none) := by
  split
  · cases Nat.blt k ls.length with
    | true => exact ur_g_nx
    | false => trivial
  · trivial
theorem ur_g_ret {z : Nat} : ur_gA m (match st with
    | [.int a] => some (.inr (.inl (bif ur_fit z a then some (a, m) else none)))
    | _ => none) := by
  split
  · intro q h
    obtain ⟨-, h⟩ := ur_cond_t h
    cases h
    rfl
  · trivial
theorem ur_g_rv : ur_gA m (match st with
    | [] => some (.inr (.inl (some (0, m))))
    | _ => none) := by
  split
  · intro q h
    cases h
    rfl
  · trivial
set_option maxHeartbeats 4000000 in
theorem ur_one_g (z : Nat) (sw : List (Int32 × Nat) × Nat) (i : Instr) (n x : Nat) (v : Int32) (pc : Nat) (ls : List (Option Value)) (st : List Value) (m : ur_M) : ur_gA m (ur_one z sw i n x v pc ls st m) := by
  cases i <;> simp only [ur_one] <;> first | trivial | exact ur_g_nx | exact ur_g_inv | exact ur_g_ldi | exact ur_g_ldl | exact ur_g_lda | exact ur_g_sti | exact ur_g_stl | exact ur_g_sta | exact ur_g_bi | exact ur_g_bl | exact ur_g_i1 | exact ur_g_if1 | exact ur_g_if2 | exact ur_g_getf | exact ur_g_putf | exact ur_g_sw | exact ur_g_iinc | exact ur_g_ret | exact ur_g_rv | exact ur_g_ast (fun _ _ _ _ h => ur_g_wI h) | exact ur_g_ald | exact ⟨fun _ h => ur_g_nO h, fun _ => rfl⟩ | (cases x == 0 <;> exact ur_g_nx) | (split <;> first | exact ur_g_nx | trivial | exact fun _ => rfl | exact ⟨fun _ h => ur_g_wL h, fun _ => rfl⟩ | exact ⟨fun _ h => ur_g_wR h, fun _ => rfl⟩ | exact ⟨fun _ h => ur_g_nA h, fun _ => rfl⟩)
end URG
theorem ur_do_g {self : ur_S → Option ur_V} {call : Nat → List Value → ur_M → Option ur_V} {m : ur_M} {r : ur_V} (o : Option ur_A) (ho : ur_gA m o) (hs : ∀ s r, self s = some r → ur_le s.2.2.2 r.2) (hc : ∀ y as m r, call y as m = some r → ur_le m r.2) (h : ur_do self call o = some r) : ur_le m r.2 := by
  match o, ho, h with
  | some (.inl (bs, s)), ho, h =>
    revert h
    show bs.foldr (fun q r => bif q.1 then self q.2 else r) (self s) = some r → _
    obtain ⟨h1, h2⟩ := ho
    induction bs with
    | nil => intro h; have := hs _ _ h; rw [h2] at this; exact this
    | cons q bs ih =>
      simp only [List.foldr_cons]
      cases q.1 with
      | true => intro h; have := hs _ _ h; rw [h1 q List.mem_cons_self] at this; exact this
      | false => exact ih (fun z hz => h1 z (List.mem_cons_of_mem _ hz))
  | some (.inr (.inl x)), ho, h => rw [ho r h]; exact ur_le_same rfl
  | some (.inr (.inr (.inl (y, as, m', f)))), ho, h =>
    obtain ⟨v, h1, h2⟩ := Option.bind_eq_some_iff.mp h
    obtain ⟨e1, e2⟩ := ho
    subst e1
    have a1 := hc _ _ _ _ h1
    have a2 := hs _ _ h2
    rw [e2] at a2
    exact ⟨Nat.le_trans a1.1 a2.1, Nat.le_trans a1.2 a2.2⟩
  | some (.inr (.inr (.inr (.inl (o, f))))), ho, h =>
    obtain ⟨v, h1, h2⟩ := Option.bind_eq_some_iff.mp h
    have := hs _ _ h2; rw [ho v] at this; exact this
  | some (.inr (.inr (.inr (.inr (.inl (o, f)))))), ho, h =>
    obtain ⟨v, h1, h2⟩ := Option.bind_eq_some_iff.mp h
    have := hs _ _ h2; rw [ho v] at this; exact this
  | some (.inr (.inr (.inr (.inr (.inr (.inl (o, f))))))), ho, h =>
    obtain ⟨v, h1, h2⟩ := Option.bind_eq_some_iff.mp h
    have := hs _ _ h2; rw [ho v] at this; exact this
  | some (.inr (.inr (.inr (.inr (.inr (.inr (o, f))))))), ho, h =>
    obtain ⟨v, h1, h2⟩ := Option.bind_eq_some_iff.mp h
    have a1 := ho.1 v h1
    have a2 := hs _ _ h2
    rw [ho.2 v] at a2
    exact ⟨Nat.le_trans a1.1 a2.1, Nat.le_trans a1.2 a2.2⟩
theorem ur_exc_g {G : Nat → ur_P} {n d y : Nat} {as : List Value} {m : ur_M} {r : ur_V} (hs : ∀ d k s r, ur_ex G n d k s = some r → ur_le s.2.2.2 r.2) (h : ur_exc G n d y as m = some r) : ur_le m r.2 := by
  cases d with
  | zero => cases h
  | succ d =>
    obtain ⟨-, h⟩ := ur_cond_t h
    exact hs d y _ r h
theorem ur_grow (G : Nat → ur_P) : ∀ n d k s r, ur_ex G n d k s = some r → ur_le s.2.2.2 r.2
  | 0, _, _, _, _, h => by simp [ur_ex] at h
  | n + 1, d, k, s, r, h => by
    rw [ur_ex_s] at h
    refine ur_do_g (m := s.2.2.2) _ ?_ (fun s r => ur_grow G n d k s r) (fun y as m r h => ur_exc_g (fun d k s r => ur_grow G n d k s r) h) h
    unfold ur_stp
    split
    · exact ur_one_g _ _ _ _ _ _ _ _ _ _
    · trivial

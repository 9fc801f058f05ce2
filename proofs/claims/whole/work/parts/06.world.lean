/-! THE WORLD OF A MEMORY: cell a of the pure machine lies at b0 + a; old cells lie where ad says -/
def ur_kds : List (List Nat) := [[2], [3, 3, 3, 3, 3, 3, 3, 3, 1, 0, 0, 0, 0], [3, 3, 0, 0], [3, 3, 3, 0, 0], [3, 3, 3, 1], [3, 3, 3, 3, 3, 0, 0, 0, 0], [3, 3, 3, 0], [3, 3, 0, 0], [3, 0, 0, 0, 0, 2, 0, 0], [3, 3, 3, 3, 3, 3, 3, 3, 3, 0, 0, 3, 3, 3, 3], [0, 0, 3, 0, 0, 0, 0, 2, 0, 0, 3, 3, 3, 3, 3, 3, 3, 3, 3, 3, 3, 0, 3, 3, 3, 3, 3, 3, 3, 3, 3, 3, 3, 3, 0, 2, 3, 3, 3, 3, 3, 3, 3, 3, 3, 3, 3, 3, 3, 3, 0, 3, 3, 0, 3, 3, 2]]
def ur_kd (ci k : Nat) : Nat := (ur_kds.getD ci []).getD k 0
def ur_nf (ci : Nat) : Nat := (ur_kds.getD ci []).length
def ur_cv (b0 : Nat) (ad : Nat → Value) (v : Value) : Value := match v with
  | .ref b => if b < ur_base then .ref (b0 + b) else ad (b - ur_base)
  | v => v
def ur_fv (b0 : Nat) (m : ur_M) (a k kind : Nat) : Value := match kind with
  | 2 => .long (m.2.2.1 a k)
  | 3 => va_rf ((m.2.2.2 a k).map (fun b => b0 + b))
  | _ => .int (m.2.1 a k)
def ur_fs (b0 : Nat) (m : ur_M) (a ci : Nat) : List Value := (List.range (ur_nf ci)).map (fun k => ur_fv b0 m a k (ur_kd ci k))
def ur_ar (b0 : Nat) (m : ur_M) (a t n : Nat) : vp_A := match t with
  | 1 => (n, .inr (.inl (m.2.2.1 a)))
  | 4 => (n, .inr (.inr (.inr (.inr (fun j => (m.2.2.2 a j).map (fun b => b0 + b))))))
  | 5 => (n, .inr (.inr (.inr (.inr (fun j => (m.2.2.2 a j).map (fun b => b0 + b))))))
  | _ => (n, .inl (m.2.1 a))
def ur_ce (b0 : Nat) (cas : Nat → ClassId) (m : ur_M) (a : Nat) : va_E := match m.1[a]? with
  | some (.inl ci) => .inr (ci, ur_fs b0 m a ci)
  | some (.inr (t, n)) => .inl (cas t, ur_ar b0 m a t n)
  | none => .inr (0, [])
def ur_ws (b0 : Nat) (cas : Nat → ClassId) (m : ur_M) : va_W := (List.range m.1.length).map (fun a => (b0 + a, ur_ce b0 cas m a))
def ur_tys (cas : Nat → ClassId) : List (ClassId × FieldType) := [(cas 0, .int), (cas 1, .long), (cas 2, .boolean), (cas 3, .char), (cas 4, .object "UnsaidRoom$Night"), (cas 5, .object "UnsaidRoom$Mark")]
def ur_sl : List (Nat ⊕ (Nat × Nat)) → Nat
  | [] => 0
  | .inl ci :: r => ur_nf ci + ur_sl r
  | .inr (_, n) :: r => n + ur_sl r
theorem ur_sl_app (a b : List (Nat ⊕ (Nat × Nat))) : ur_sl (a ++ b) = ur_sl a + ur_sl b := by
  induction a with
  | nil => simp [ur_sl]
  | cons x r ih => cases x with
    | inl c => simp [ur_sl, ih]; omega
    | inr q => obtain ⟨t, n⟩ := q; simp [ur_sl, ih]; omega
section URW
variable {b0 : Nat} {cas : Nat → ClassId} {m m' : ur_M} {a ci t n k : Nat}
theorem ur_lt {z : Nat ⊕ (Nat × Nat)} (h : m.1[a]? = some z) : a < m.1.length := (List.getElem?_eq_some_iff.mp h).1
theorem ur_ws_at (h : a < m.1.length) : (ur_ws b0 cas m)[a]? = some (b0 + a, ur_ce b0 cas m a) := by
  simp [ur_ws, h]
theorem ur_ws_O (h : m.1[a]? = some (.inl ci)) : (ur_ws b0 cas m)[a]? = some (b0 + a, .inr (ci, ur_fs b0 m a ci)) := by
  rw [ur_ws_at (ur_lt h)]; simp [ur_ce, h]
theorem ur_ws_A (h : m.1[a]? = some (.inr (t, n))) : (ur_ws b0 cas m)[a]? = some (b0 + a, .inl (cas t, ur_ar b0 m a t n)) := by
  rw [ur_ws_at (ur_lt h)]; simp [ur_ce, h]
theorem ur_ws_set (h1 : m'.1 = m.1) (h2 : ∀ b, b ≠ a → ur_ce b0 cas m' b = ur_ce b0 cas m b) : (ur_ws b0 cas m).set a (b0 + a, ur_ce b0 cas m' a) = ur_ws b0 cas m' := by
  apply List.ext_getElem?
  intro j
  by_cases hj : j = a
  · subst hj
    rw [List.getElem?_set]
    by_cases hl : j < m.1.length
    · rw [if_pos rfl, if_pos (by simp [ur_ws, hl]), ur_ws_at (by rw [h1]; exact hl)]
    · rw [if_pos rfl, if_neg (by simp [ur_ws, hl])]
      simp [ur_ws, h1, hl]
  · rw [List.getElem?_set_ne (fun q => hj q.symm)]
    by_cases hl : j < m.1.length
    · rw [ur_ws_at hl, ur_ws_at (by rw [h1]; exact hl), h2 j hj]
    · simp [ur_ws, h1, hl]
theorem ur_ws_push {x : Nat ⊕ (Nat × Nat)} (h1 : m'.1 = m.1 ++ [x]) (h2 : ∀ b, b < m.1.length → ur_ce b0 cas m' b = ur_ce b0 cas m b) : ur_ws b0 cas m' = ur_ws b0 cas m ++ [(b0 + m.1.length, ur_ce b0 cas m' m.1.length)] := by
  simp only [ur_ws, h1, List.length_append, List.length_singleton, List.range_succ, List.map_append, List.map_cons, List.map_nil]
  congr 1
  apply List.map_congr_left
  intro b hb
  rw [h2 b (List.mem_range.mp hb)]
theorem ur_map_set {α : Type} {f f' : Nat → α} {N : Nat} (h : ∀ j, j ≠ k → f' j = f j) : ((List.range N).map f).set k (f' k) = (List.range N).map f' := by
  apply List.ext_getElem?
  intro j
  by_cases hj : j = k
  · subst hj
    rw [List.getElem?_set]
    by_cases hl : j < N
    · simp [hl]
    · simp [hl]
  · rw [List.getElem?_set_ne (fun q => hj q.symm)]
    by_cases hl : j < N
    · simp [hl, h j hj]
    · simp [hl]
theorem ur_fs_at (h : k < ur_nf ci) : (ur_fs b0 m a ci)[k]? = some (ur_fv b0 m a k (ur_kd ci k)) := by
  simp [ur_fs, h]
theorem ur_ce_O (h : m.1[a]? = some (.inl ci)) : ur_ce b0 cas m a = .inr (ci, ur_fs b0 m a ci) := by simp [ur_ce, h]
theorem ur_ce_A (h : m.1[a]? = some (.inr (t, n))) : ur_ce b0 cas m a = .inl (cas t, ur_ar b0 m a t n) := by simp [ur_ce, h]
theorem ur_fv_congr {b : Nat} (e1 : m'.2.1 b = m.2.1 b) (e2 : m'.2.2.1 b = m.2.2.1 b) (e3 : m'.2.2.2 b = m.2.2.2 b) (k kind : Nat) : ur_fv b0 m' b k kind = ur_fv b0 m b k kind := by
  unfold ur_fv; rw [e1, e2, e3]
theorem ur_ce_congr {b : Nat} (h1 : m'.1[b]? = m.1[b]?) (e1 : m'.2.1 b = m.2.1 b) (e2 : m'.2.2.1 b = m.2.2.1 b) (e3 : m'.2.2.2 b = m.2.2.2 b) : ur_ce b0 cas m' b = ur_ce b0 cas m b := by
  unfold ur_ce
  rw [h1]
  cases m.1[b]? with
  | none => rfl
  | some x => cases x with
    | inl c => simp only [ur_fs, ur_fv_congr e1 e2 e3]
    | inr q => obtain ⟨t, n⟩ := q; simp only [ur_ar, e1, e2, e3]
theorem ur_u_ne {α : Type} {f : Nat → Nat → α} {v : α} {b : Nat} (h : b ≠ a) : ur_u f a k v b = f b := by
  funext j; simp [ur_u, h]
theorem ur_u_at {α : Type} {f : Nat → Nat → α} {v : α} : ur_u f a k v a k = v := by simp [ur_u]
theorem ur_u_ot {α : Type} {f : Nat → Nat → α} {v : α} {j : Nat} (h : j ≠ k) : ur_u f a k v a j = f a j := by simp [ur_u, h]
theorem ur_row_ne {α : Type} {f : Nat → Nat → α} {g : Nat → α} {b : Nat} (h : b ≠ a) : ur_row f a g b = f b := by simp [ur_row, h]
theorem ur_row_at {α : Type} {f : Nat → Nat → α} {g : Nat → α} : ur_row f a g a = g := by simp [ur_row]
/-- a field is written: the world -/
theorem ur_ws_put {v : Value} (ho : m.1[a]? = some (.inl ci)) (h1 : m'.1 = m.1) (e1 : ∀ b, b ≠ a → m'.2.1 b = m.2.1 b ∧ m'.2.2.1 b = m.2.2.1 b ∧ m'.2.2.2 b = m.2.2.2 b) (ek : ur_fv b0 m' a k (ur_kd ci k) = v) (ej : ∀ j, j ≠ k → ur_fv b0 m' a j (ur_kd ci j) = ur_fv b0 m a j (ur_kd ci j)) : (ur_ws b0 cas m).set a (b0 + a, .inr (ci, (ur_fs b0 m a ci).set k v)) = ur_ws b0 cas m' := by
  rw [← ur_ws_set (a := a) h1 (fun b hb => ur_ce_congr (by rw [h1]) (e1 b hb).1 (e1 b hb).2.1 (e1 b hb).2.2), ur_ce_O (by rw [h1]; exact ho)]
  congr 4
  rw [← ek]
  exact ur_map_set ej
theorem ur_D {A : Nat → Prop} (hA : ∀ b, b < m.1.length → A (b0 + b)) : va_D A (ur_ws b0 cas m) := by
  refine ⟨fun i j p q hi hj e => ?_, fun k q hk => ?_⟩
  · have li : i < m.1.length := by have := (List.getElem?_eq_some_iff.mp hi).1; simpa [ur_ws] using this
    have lj : j < m.1.length := by have := (List.getElem?_eq_some_iff.mp hj).1; simpa [ur_ws] using this
    rw [ur_ws_at li] at hi
    rw [ur_ws_at lj] at hj
    cases hi; cases hj
    simp at e; exact e
  · have lk : k < m.1.length := by have := (List.getElem?_eq_some_iff.mp hk).1; simpa [ur_ws] using this
    rw [ur_ws_at lk] at hk
    cases hk
    exact hA k lk
end URW
-- locals
def ur_asc (b0 : Nat) (ad : Nat → Value) (ls : List (Option Value)) : List (Nat × Value) := (List.range ls.length).filterMap (fun i => match ls[i]? with
  | some (some v) => some (i, ur_cv b0 ad v)
  | _ => none)
def ur_has (lsr : Array Slot) (b0 : Nat) (ad : Nat → Value) (ls : List (Option Value)) : Prop := lv_has lsr ls.length (ur_asc b0 ad ls)
def ur_ado (ad : Nat → Value) : Prop := ∀ j, ad j = .null ∨ ∃ q, ad j = .ref q
section URL
variable {b0 : Nat} {ad : Nat → Value} {ls : List (Option Value)} {lsr : Array Slot}
theorem ur_asc_mem {q : Nat × Value} : q ∈ ur_asc b0 ad ls ↔ ∃ v, ls[q.1]? = some (some v) ∧ q.2 = ur_cv b0 ad v := by
  unfold ur_asc
  rw [List.mem_filterMap]
  constructor
  · rintro ⟨i, -, h⟩
    split at h
    next v hv =>
      cases h
      exact ⟨v, hv, rfl⟩
    next => cases h
  · rintro ⟨v, h1, h2⟩
    refine ⟨q.1, List.mem_range.mpr (List.getElem?_eq_some_iff.mp h1).1, ?_⟩
    rw [h1]
    show some (q.1, ur_cv b0 ad v) = some q
    rw [← h2]
theorem ur_ld_some {j : Nat} {v : Value} (h : ur_ld ls j = some v) : ls[j]? = some (some v) := by
  unfold ur_ld at h
  split at h
  next o ho => rw [ho, h]
  next => cases h
theorem ur_has_at {j : Nat} {v : Value} (hl : ur_has lsr b0 ad ls) (h : ur_ld ls j = some v) : lsr[j]? = some (.val (ur_cv b0 ad v)) := hl.2.2 (j, ur_cv b0 ad v) (ur_asc_mem.mpr ⟨v, ur_ld_some h, rfl⟩)
theorem ur_cv_cat (had : ur_ado ad) (v : Value) : (ur_cv b0 ad v).category = v.category := by
  cases v with
  | ref b =>
    simp only [ur_cv]
    split
    · rfl
    · rcases had (b - ur_base) with h | ⟨q, h⟩ <;> rw [h] <;> rfl
  | _ => rfl
theorem ur_clr_len (j : Nat) : (ur_clr ls j).length = ls.length := by
  unfold ur_clr
  split
  · rfl
  · split
    · rename_i v _
      cases v.category == 2 <;> simp
    · rfl
theorem ur_clr_at {j i : Nat} {w : Value} (h : (ur_clr ls j)[i]? = some (some w)) : ls[i]? = some (some w) ∧ ¬ (i + 1 = j ∧ w.category = 2) := by
  cases j with
  | zero => exact ⟨h, fun q => by omega⟩
  | succ j =>
    simp only [ur_clr] at h
    split at h
    next v hv =>
      cases hc : v.category == 2 with
      | true =>
        rw [hc] at h
        simp only [cond_true] at h
        by_cases hi : i = j
        · subst hi
          rw [List.getElem?_set] at h
          split at h <;> simp_all
        · rw [List.getElem?_set_ne (fun q => hi q.symm)] at h
          exact ⟨h, fun q => by omega⟩
      | false =>
        rw [hc] at h
        simp only [cond_false] at h
        refine ⟨h, fun q => ?_⟩
        have : i = j := by omega
        subst this
        rw [hv] at h
        cases h
        simp [q.2] at hc
    next hn =>
      refine ⟨h, fun q => ?_⟩
      have : i = j := by omega
      subst this
      exact hn w h
theorem ur_has_st1 {ls' : Array Slot} {i : Nat} {v : Value} (had : ur_ado ad) (hl : lv_has ls' ls.length ((i, ur_cv b0 ad v) :: (ur_asc b0 ad ls).filter (fun q => !(q.1 == i) && !(q.1 + 1 == i && q.2.category == 2)))) : ur_has ls' b0 ad (ur_st1 ls i v) := by
  refine ⟨by rw [hl.1]; simp [ur_st1, ur_clr_len], hl.2.1, fun q hq => ?_⟩
  obtain ⟨w, h1, h2⟩ := ur_asc_mem.mp hq
  refine hl.2.2 q ?_
  by_cases hi : q.1 = i
  · unfold ur_st1 at h1
    rw [hi, List.getElem?_set] at h1
    split at h1
    · split at h1
      · cases h1
        exact List.mem_cons.mpr (Or.inl (Prod.ext hi h2))
      · cases h1
    · rename_i hne; exact absurd rfl hne
  · unfold ur_st1 at h1
    rw [List.getElem?_set_ne (fun z => hi z.symm)] at h1
    obtain ⟨h3, h4⟩ := ur_clr_at h1
    refine List.mem_cons.mpr (Or.inr (List.mem_filter.mpr ⟨ur_asc_mem.mpr ⟨w, h3, h2⟩, ?_⟩))
    rw [h2, ur_cv_cat had]
    by_cases h5 : q.1 + 1 = i
    · have : ¬ w.category = 2 := fun z => h4 ⟨h5, z⟩
      simp [hi, h5, this]
    · simp [hi, h5]
theorem ur_has_st2 {ls' : Array Slot} {i : Nat} {v : Value} (had : ur_ado ad) (hl : lv_has ls' ls.length ((i, ur_cv b0 ad v) :: (ur_asc b0 ad ls).filter (fun q => !(q.1 == i) && (!(q.1 == i + 1) && !(q.1 + 1 == i && q.2.category == 2))))) : ur_has ls' b0 ad (ur_st2 ls i v) := by
  refine ⟨by rw [hl.1]; simp [ur_st2, ur_clr_len], hl.2.1, fun q hq => ?_⟩
  obtain ⟨w, h1, h2⟩ := ur_asc_mem.mp hq
  refine hl.2.2 q ?_
  have hi1 : ¬ q.1 = i + 1 := by
    intro hi
    unfold ur_st2 at h1
    rw [hi, List.getElem?_set] at h1
    split at h1
    · split at h1 <;> cases h1
    · rename_i hne; exact absurd rfl hne
  unfold ur_st2 at h1
  rw [List.getElem?_set_ne (fun z => hi1 z.symm)] at h1
  by_cases hi : q.1 = i
  · rw [hi, List.getElem?_set] at h1
    split at h1
    · split at h1
      · cases h1
        exact List.mem_cons.mpr (Or.inl (Prod.ext hi h2))
      · cases h1
    · rename_i hne; exact absurd rfl hne
  · rw [List.getElem?_set_ne (fun z => hi z.symm)] at h1
    obtain ⟨h3, h4⟩ := ur_clr_at h1
    refine List.mem_cons.mpr (Or.inr (List.mem_filter.mpr ⟨ur_asc_mem.mpr ⟨w, h3, h2⟩, ?_⟩))
    rw [h2, ur_cv_cat had]
    by_cases h5 : q.1 + 1 = i
    · have : ¬ w.category = 2 := fun z => h4 ⟨h5, z⟩
      simp [hi, hi1, h5, this]
    · simp [hi, hi1, h5]
end URL

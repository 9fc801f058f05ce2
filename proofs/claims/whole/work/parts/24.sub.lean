/-! LOCALS THAT NOBODY READS MAY BE FORGOTTEN -/
def ur_sub (a b : List (Option Value)) : Prop := a.length = b.length ∧ ∀ (i : Nat) (v : Value), a[i]? = some (some v) → b[i]? = some (some v)
def ur_ss (x y : ur_S) : Prop := x.1 = y.1 ∧ ur_sub x.2.1 y.2.1 ∧ x.2.2 = y.2.2
def ur_sA (A B : Option ur_A) : Prop := match A, B with
  | none, _ => True
  | some (.inl (bs, s)), some (.inl (bs', s')) => bs.map (fun q => q.1) = bs'.map (fun q => q.1) ∧ (∀ (i : Nat) (q q' : Bool × ur_S), bs[i]? = some q → bs'[i]? = some q' → ur_ss q.2 q'.2) ∧ ur_ss s s'
  | some (.inr (.inl r)), some (.inr (.inl r')) => r = r'
  | some (.inr (.inr (.inl (y, as, m, f)))), some (.inr (.inr (.inl (y', as', m', f')))) => y = y' ∧ as = as' ∧ m = m' ∧ ∀ v m, ur_ss (f v m) (f' v m)
  | some (.inr (.inr (.inr (.inl (o, f))))), some (.inr (.inr (.inr (.inl (o', f'))))) => o = o' ∧ ∀ v, ur_ss (f v) (f' v)
  | some (.inr (.inr (.inr (.inr (.inl (o, f)))))), some (.inr (.inr (.inr (.inr (.inl (o', f')))))) => o = o' ∧ ∀ v, ur_ss (f v) (f' v)
  | some (.inr (.inr (.inr (.inr (.inr (.inl (o, f))))))), some (.inr (.inr (.inr (.inr (.inr (.inl (o', f'))))))) => o = o' ∧ ∀ v, ur_ss (f v) (f' v)
  | some (.inr (.inr (.inr (.inr (.inr (.inr (o, f))))))), some (.inr (.inr (.inr (.inr (.inr (.inr (o', f'))))))) => o = o' ∧ ∀ v, ur_ss (f v) (f' v)
  | _, _ => False
section URB
variable {a b : List (Option Value)} {pc pc' n x k : Nat} {st st' : List Value} {m m' : ur_M} {i v : Int32}
theorem ur_sub_ld (h : ur_sub a b) {j : Nat} {w : Value} (hw : ur_ld a j = some w) : ur_ld b j = some w := by
  have := h.2 j w (ur_ld_some hw)
  unfold ur_ld
  rw [this]
theorem ur_sub_rf : ur_sub a a := ⟨rfl, fun _ _ h => h⟩
theorem ur_clr_b (h : ur_sub a b) (j : Nat) (i : Nat) (w : Value) (hw : (ur_clr a j)[i]? = some (some w)) : (ur_clr b j)[i]? = some (some w) := by
  obtain ⟨h1, h2⟩ := ur_clr_at hw
  have h3 := h.2 i w h1
  cases j with
  | zero => exact h3
  | succ j =>
    simp only [ur_clr]
    split
    next z hz =>
      cases hc : z.category == 2 with
      | false => exact h3
      | true =>
        simp only [cond_true]
        by_cases hi : i = j
        · subst hi
          rw [h3] at hz
          cases hz
          exact absurd ⟨rfl, by simpa using hc⟩ h2
        · rw [List.getElem?_set_ne (fun q => hi q.symm)]; exact h3
    next => exact h3
theorem ur_sub_st1 (h : ur_sub a b) (j : Nat) (w : Value) : ur_sub (ur_st1 a j w) (ur_st1 b j w) := by
  refine ⟨by simp [ur_st1, ur_clr_len, h.1], fun i z hz => ?_⟩
  unfold ur_st1 at hz ⊢
  by_cases hi : i = j
  · subst hi
    rw [List.getElem?_set] at hz ⊢
    simp only [ur_clr_len, if_true, h.1] at hz ⊢
    exact hz
  · rw [List.getElem?_set_ne (fun q => hi q.symm)] at hz ⊢
    exact ur_clr_b h j i z hz
theorem ur_sub_st2 (h : ur_sub a b) (j : Nat) (w : Value) : ur_sub (ur_st2 a j w) (ur_st2 b j w) := by
  refine ⟨by simp [ur_st2, ur_clr_len, h.1], fun i z hz => ?_⟩
  unfold ur_st2 at hz ⊢
  by_cases hi1 : i = j + 1
  · subst hi1
    rw [List.getElem?_set] at hz
    split at hz
    · split at hz <;> cases hz
    · rename_i hne; exact absurd rfl hne
  rw [List.getElem?_set_ne (fun q => hi1 q.symm)] at hz ⊢
  by_cases hi : i = j
  · subst hi
    rw [List.getElem?_set] at hz ⊢
    simp only [ur_clr_len, if_true, h.1] at hz ⊢
    exact hz
  · rw [List.getElem?_set_ne (fun q => hi q.symm)] at hz ⊢
    exact ur_clr_b h j i z hz
theorem ur_b_nx (h : ur_sub a b) : ur_sA (ur_nx pc a st m) (ur_nx pc b st m) := ⟨rfl, fun _ _ _ h => (by cases h), rfl, h, rfl⟩
theorem ur_b_cd {z : Bool} {A B : Option ur_A} (h : ur_sA A B) : ur_sA (bif z then A else none) (bif z then B else none) := by cases z with
  | true => exact h
  | false => trivial
theorem ur_b_cd2 {z : Bool} {A B A' B' : Option ur_A} (h : ur_sA A B) (h' : ur_sA A' B') : ur_sA (bif z then A else A') (bif z then B else B') := by cases z <;> assumption
theorem ur_b_ldi (h : ur_sub a b) : ur_sA (ur_ldi k n pc a st m) (ur_ldi k n pc b st m) := by
  unfold ur_ldi
  cases hq : ur_ld a k with
  | none => trivial
  | some w =>
    rw [ur_sub_ld h hq]
    cases w <;> first | exact ur_b_nx h | trivial
theorem ur_b_ldl (h : ur_sub a b) : ur_sA (ur_ldl k n pc a st m) (ur_ldl k n pc b st m) := by
  unfold ur_ldl
  cases hq : ur_ld a k with
  | none => trivial
  | some w =>
    rw [ur_sub_ld h hq]
    cases w <;> first | exact ur_b_nx h | trivial
theorem ur_b_lda (h : ur_sub a b) : ur_sA (ur_lda k n pc a st m) (ur_lda k n pc b st m) := by
  unfold ur_lda
  cases hq : ur_ld a k with
  | none => trivial
  | some w =>
    rw [ur_sub_ld h hq]
    cases w <;> first | exact ur_b_nx h | trivial
theorem ur_b_iinc (h : ur_sub a b) : ur_sA (match ur_ld a k with
    | some (.int w) => bif Nat.blt k a.length then ur_nx (pc + n) (ur_st1 a k (.int (w + v))) st m else none
    | _ => none) (match ur_ld b k with
    | some (.int w) => bif Nat.blt k b.length then ur_nx (pc + n) (ur_st1 b k (.int (w + v))) st m else none
    | _ => none) := by
  rw [← h.1]
  cases hq : ur_ld a k with
  | none => trivial
  | some w =>
    rw [ur_sub_ld h hq]
    cases w <;> first | exact ur_b_cd (ur_b_nx (ur_sub_st1 h _ _)) | trivial
theorem ur_b_sti (h : ur_sub a b) : ur_sA (ur_sti k n pc a st m) (ur_sti k n pc b st m) := by
  unfold ur_sti
  rw [← h.1]
  split
  · exact ur_b_cd (ur_b_nx (ur_sub_st1 h _ _))
  · trivial
theorem ur_b_sta (h : ur_sub a b) : ur_sA (ur_sta k n pc a st m) (ur_sta k n pc b st m) := by
  unfold ur_sta
  rw [← h.1]
  split
  · exact ur_b_cd (ur_b_nx (ur_sub_st1 h _ _))
  · trivial
theorem ur_b_stl (h : ur_sub a b) : ur_sA (ur_stl k n pc a st m) (ur_stl k n pc b st m) := by
  unfold ur_stl
  rw [← h.1]
  split
  · exact ur_b_cd (ur_b_nx (ur_sub_st2 h _ _))
  · trivial
theorem ur_b_br (h : ur_sub a b) {c : Bool} : ur_sA (ur_br c (x, a, st, m) (pc, a, st, m)) (ur_br c (x, b, st, m) (pc, b, st, m)) := by
  refine ⟨rfl, fun i q q' h1 h2 => ?_, rfl, h, rfl⟩
  match i, h1, h2 with
  | 0, h1, h2 => cases h1; cases h2; exact ⟨rfl, h, rfl⟩
theorem ur_b_sw (h : ur_sub a b) {sw : List (Int32 × Nat)} {d : Nat} {w : Int32} : ur_sA (some (.inl (sw.map (fun q => (decide (w = q.1), (q.2, a, st, m))), (d, a, st, m)))) (some (.inl (sw.map (fun q => (decide (w = q.1), (q.2, b, st, m))), (d, b, st, m)))) := by
  refine ⟨by simp, fun i q q' h1 h2 => ?_, rfl, h, rfl⟩
  rw [List.getElem?_map] at h1 h2
  cases hz : sw[i]? with
  | none => rw [hz] at h1; cases h1
  | some z =>
    rw [hz] at h1 h2
    cases h1; cases h2
    exact ⟨rfl, h, rfl⟩
theorem ur_b_inv (h : ur_sub a b) : ur_sA (ur_inv x pc a st m) (ur_inv x pc b st m) := by
  unfold ur_inv
  refine ur_b_cd2 (ur_b_cd ⟨rfl, rfl, rfl, fun _ _ => ⟨rfl, h, rfl⟩⟩) ?_
  unfold ur_lib
  refine ur_b_cd2 ?_ (ur_b_cd2 ?_ (ur_b_cd2 ?_ (ur_b_cd2 ?_ trivial)))
  · unfold ur_lib0
    split
    · exact ur_b_cd ⟨rfl, fun _ => ⟨rfl, h, rfl⟩⟩
    · trivial
  · unfold ur_lib1
    split
    · exact ur_b_cd (ur_b_nx h)
    · trivial
  · unfold ur_lib2
    split
    · exact ur_b_cd (ur_b_nx h)
    · trivial
  · unfold ur_lib2
    split
    · exact ur_b_cd (ur_b_nx h)
    · trivial
theorem ur_b_putf (h : ur_sub a b) : ur_sA (ur_putf x pc a st m) (ur_putf x pc b st m) := by
  unfold ur_putf
  split <;> split <;> first | trivial | exact ⟨rfl, fun _ => ⟨rfl, h, rfl⟩⟩
theorem ur_b_getf (h : ur_sub a b) : ur_sA (ur_getf x pc a st m) (ur_getf x pc b st m) := by
  unfold ur_getf
  split
  · split <;> exact ⟨rfl, fun _ => ⟨rfl, h, rfl⟩⟩
  · trivial
set_option maxHeartbeats 4000000 in
theorem ur_one_b (h : ur_sub a b) (z : Nat) (sw : List (Int32 × Nat) × Nat) (i : Instr) (n x : Nat) (v : Int32) (pc : Nat) (st : List Value) (m : ur_M) : ur_sA (ur_one z sw i n x v pc a st m) (ur_one z sw i n x v pc b st m) := by
  cases i <;> simp only [ur_one] <;> first | trivial | exact ur_b_nx h | exact ur_b_inv h | exact ur_b_ldi h | exact ur_b_ldl h | exact ur_b_lda h | exact ur_b_sti h | exact ur_b_stl h | exact ur_b_sta h | exact ur_b_iinc h | exact ur_b_getf h | exact ur_b_putf h | exact ur_b_cd2 (ur_b_nx h) (ur_b_nx h) | exact ⟨rfl, fun _ => ⟨rfl, h, rfl⟩⟩ | ((try simp only [ur_bi, ur_bl, ur_i1, ur_if1, ur_if2, ur_ald, ur_ast]); split <;> first | trivial | exact ur_b_nx h | exact ur_b_br h | exact ⟨rfl, fun _ => ⟨rfl, h, rfl⟩⟩ | exact ur_b_sw h | rfl)
end URB
theorem ur_do_b {self : ur_S → Option ur_V} {call : Nat → List Value → ur_M → Option ur_V} {self' : ur_S → Option ur_V} {A B : Option ur_A} {r : ur_V} (hs : ∀ s s' r, ur_ss s s' → self s = some r → self' s' = some r) (h : ur_sA A B) (hA : ur_do self call A = some r) : ur_do self' call B = some r := by
  match A, B, h, hA with
  | some (.inl (bs, s)), some (.inl (bs', s')), h, hA =>
    obtain ⟨h1, h2, h3⟩ := h
    revert hA; revert h2; revert h1
    show bs.map _ = bs'.map _ → _ → bs.foldr (fun q r => bif q.1 then self q.2 else r) (self s) = some r → bs'.foldr (fun q r => bif q.1 then self' q.2 else r) (self' s') = some r
    induction bs generalizing bs' with
    | nil =>
      intro h1 h2 hA
      cases bs' with
      | nil => exact hs _ _ _ h3 hA
      | cons _ _ => cases h1
    | cons q bs ih =>
      intro h1 h2 hA
      cases bs' with
      | nil => cases h1
      | cons q' bs' =>
        simp only [List.map_cons, List.cons.injEq] at h1
        simp only [List.foldr_cons] at hA ⊢
        rw [← h1.1]
        cases hq : q.1 with
        | true =>
          rw [hq] at hA
          exact hs _ _ _ (h2 0 q q' rfl rfl) hA
        | false =>
          rw [hq] at hA
          exact ih bs' h1.2 (fun i z z' a1 a2 => h2 (i + 1) z z' a1 a2) hA
  | some (.inr (.inl x)), some (.inr (.inl x')), h, hA =>
    have h : x = x' := h
    subst h
    exact hA
  | some (.inr (.inr (.inl (y, as, m, f)))), some (.inr (.inr (.inl (y', as', m', f')))), h, hA =>
    obtain ⟨rfl, rfl, rfl, h4⟩ := h
    obtain ⟨v, g1, g2⟩ := Option.bind_eq_some_iff.mp hA
    exact Option.bind_eq_some_iff.mpr ⟨v, g1, hs _ _ _ (h4 _ _) g2⟩
  | some (.inr (.inr (.inr (.inl (o, f))))), some (.inr (.inr (.inr (.inl (o', f'))))), h, hA =>
    obtain ⟨rfl, h4⟩ := h
    obtain ⟨v, g1, g2⟩ := Option.bind_eq_some_iff.mp hA
    exact Option.bind_eq_some_iff.mpr ⟨v, g1, hs _ _ _ (h4 _) g2⟩
  | some (.inr (.inr (.inr (.inr (.inl (o, f)))))), some (.inr (.inr (.inr (.inr (.inl (o', f')))))), h, hA =>
    obtain ⟨rfl, h4⟩ := h
    obtain ⟨v, g1, g2⟩ := Option.bind_eq_some_iff.mp hA
    exact Option.bind_eq_some_iff.mpr ⟨v, g1, hs _ _ _ (h4 _) g2⟩
  | some (.inr (.inr (.inr (.inr (.inr (.inl (o, f))))))), some (.inr (.inr (.inr (.inr (.inr (.inl (o', f'))))))), h, hA =>
    obtain ⟨rfl, h4⟩ := h
    obtain ⟨v, g1, g2⟩ := Option.bind_eq_some_iff.mp hA
    exact Option.bind_eq_some_iff.mpr ⟨v, g1, hs _ _ _ (h4 _) g2⟩
  | some (.inr (.inr (.inr (.inr (.inr (.inr (o, f))))))), some (.inr (.inr (.inr (.inr (.inr (.inr (o', f'))))))), h, hA =>
    obtain ⟨rfl, h4⟩ := h
    obtain ⟨v, g1, g2⟩ := Option.bind_eq_some_iff.mp hA
    exact Option.bind_eq_some_iff.mpr ⟨v, g1, hs _ _ _ (h4 _) g2⟩
theorem ur_ex_b (G : Nat → ur_P) : ∀ (n d k : Nat) (s s' : ur_S) (r : ur_V), ur_ss s s' → ur_ex G n d k s = some r → ur_ex G n d k s' = some r
  | 0, _, _, _, _, _, _, h => by simp [ur_ex] at h
  | n + 1, d, k, s, s', r, hss, h => by
    rw [ur_ex_s] at h ⊢
    obtain ⟨e1, e2, e3⟩ := hss
    refine ur_do_b (fun s s' r => ur_ex_b G n d k s s' r) ?_ h
    unfold ur_stp
    rw [← e1, ← e3]
    split
    · exact ur_one_b e2 _ _ _ _ _ _ _ _ _
    · trivial
/-- what is shown with fewer locals holds with more -/
theorem ur_at_b {G : Nat → ur_P} {d k pc : Nat} {a b : List (Option Value)} {st : List Value} {m : ur_M} {r : ur_V} (h : ur_sub a b) (hr : ur_at G d k (pc, a, st, m) = some r) : ur_at G d k (pc, b, st, m) = some r := by
  obtain ⟨n, hn⟩ := ur_at_iff.mp hr
  exact ur_at_iff.mpr ⟨n, ur_ex_b G n d k (pc, a, st, m) (pc, b, st, m) r ⟨rfl, h, rfl⟩ hn⟩
/-- some locals forgotten: those whose place is false -/
def ur_fg : List Bool → List (Option Value) → List (Option Value)
  | _, [] => []
  | [], l => l
  | true :: q, o :: l => o :: ur_fg q l
  | false :: q, _ :: l => none :: ur_fg q l
theorem ur_fg_sub : ∀ (q : List Bool) (l : List (Option Value)), ur_sub (ur_fg q l) l
  | [], [] => ur_sub_rf
  | [], _ :: _ => ur_sub_rf
  | _ :: _, [] => ur_sub_rf
  | true :: q, o :: l => by
    obtain ⟨h1, h2⟩ := ur_fg_sub q l
    refine ⟨by simp [ur_fg, h1], fun i v h => ?_⟩
    match i, h with
    | 0, h => exact h
    | i + 1, h => exact h2 i v h
  | false :: q, o :: l => by
    obtain ⟨h1, h2⟩ := ur_fg_sub q l
    refine ⟨by simp [ur_fg, h1], fun i v h => ?_⟩
    match i, h with
    | 0, h => cases h
    | i + 1, h => exact h2 i v h
/-- steps on and on, up to places where one stops, there forgetting the locals that nobody reads -/
noncomputable def ur_bf (G : Nat → ur_P) (stop : Nat → Option (List Bool)) (d k : Nat) : Nat → ur_S → Option ur_V
  | 0, s => ur_at G d k s
  | N + 1, s => match stop s.1 with
    | some q => ur_at G d k (s.1, ur_fg q s.2.1, s.2.2)
    | none => ur_do (ur_bf G stop d k N) (ur_call G d) (ur_stp (G k) s)
theorem ur_bf_at (G : Nat → ur_P) (stop : Nat → Option (List Bool)) (d k : Nat) : ∀ (N : Nat) (s : ur_S) (r : ur_V), ur_bf G stop d k N s = some r → ur_at G d k s = some r
  | 0, _, _, h => h
  | N + 1, s, r, h => by
    simp only [ur_bf] at h
    split at h
    next q _ => exact ur_at_b (ur_fg_sub q s.2.1) h
    next =>
      rw [ur_at_eq]
      exact ur_do_mono (fun s r => ur_bf_at G stop d k N s r) (fun _ _ _ _ h => h) _ r h
theorem ur_gof {G : Nat → ur_P} {stop : Nat → Option (List Bool)} {N d k : Nat} {s : ur_S} {r : ur_V} (h : ur_do (ur_bf G stop d k N) (ur_call G d) (ur_stp (G k) s) = some r) : ur_at G d k s = some r := by
  rw [ur_at_eq]
  exact ur_do_mono (fun s r => ur_bf_at G stop d k N s r) (fun _ _ _ _ h => h) _ r h

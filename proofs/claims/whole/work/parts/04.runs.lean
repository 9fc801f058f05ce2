/-! RUNS WITHOUT FUEL -/
theorem ur_fold_mono {self self' : ur_S → Option ur_V} (h : ∀ s r, self s = some r → self' s = some r) (bs : List (Bool × ur_S)) (s : ur_S) (r : ur_V) : bs.foldr (fun q r => bif q.1 then self q.2 else r) (self s) = some r → bs.foldr (fun q r => bif q.1 then self' q.2 else r) (self' s) = some r := by
  induction bs with
  | nil => exact h s r
  | cons q bs ih =>
    simp only [List.foldr_cons]
    cases q.1 with
    | true => exact h q.2 r
    | false => exact ih
theorem ur_bind_mono {α : Type} {o o' : Option α} {f f' : α → Option ur_V} {r : ur_V} (ho : ∀ v, o = some v → o' = some v) (hf : ∀ v r, f v = some r → f' v = some r) (h : o.bind f = some r) : o'.bind f' = some r := by
  obtain ⟨v, h1, h2⟩ := Option.bind_eq_some_iff.mp h
  exact Option.bind_eq_some_iff.mpr ⟨v, ho v h1, hf v r h2⟩
theorem ur_do_mono {self self' : ur_S → Option ur_V} {call call' : Nat → List Value → ur_M → Option ur_V} (h : ∀ s r, self s = some r → self' s = some r) (hc : ∀ y as m r, call y as m = some r → call' y as m = some r) (o : Option ur_A) (r : ur_V) : ur_do self call o = some r → ur_do self' call' o = some r := by
  match o with
  | none => exact id
  | some (.inl (bs, s)) => exact ur_fold_mono h bs s r
  | some (.inr (.inl r)) => exact id
  | some (.inr (.inr (.inl (y, as, m, f)))) => exact ur_bind_mono (fun v => hc y as m v) (fun v r => h _ r)
  | some (.inr (.inr (.inr (.inl (o, f))))) => exact ur_bind_mono (fun _ => id) (fun v r => h _ r)
  | some (.inr (.inr (.inr (.inr (.inl (o, f)))))) => exact ur_bind_mono (fun _ => id) (fun v r => h _ r)
  | some (.inr (.inr (.inr (.inr (.inr (.inl (o, f))))))) => exact ur_bind_mono (fun _ => id) (fun v r => h _ r)
  | some (.inr (.inr (.inr (.inr (.inr (.inr (o, f))))))) => exact ur_bind_mono (fun _ => id) (fun v r => h _ r)
/-- the call, by fuel -/
def ur_exc (G : Nat → ur_P) (n d y : Nat) (as : List Value) (m : ur_M) : Option ur_V := match d with
  | 0 => none
  | d + 1 => bif ur_rcv (G y) as m && Nat.ble (ur_slots as).length (G y).2.2.1 then ur_ex G n d y (ur_ent (G y) as m) else none
theorem ur_ex_s (G : Nat → ur_P) (n d k : Nat) (s : ur_S) : ur_ex G (n + 1) d k s = ur_do (ur_ex G n d k) (ur_exc G n d) (ur_stp (G k) s) := by
  show ur_do _ _ _ = _
  congr 1
theorem ur_exc_mono {G : Nat → ur_P} {n n' d y : Nat} {as : List Value} {m : ur_M} {r : ur_V} (h : ∀ d k s r, ur_ex G n d k s = some r → ur_ex G n' d k s = some r) : ur_exc G n d y as m = some r → ur_exc G n' d y as m = some r := by
  cases d with
  | zero => exact id
  | succ d =>
    simp only [ur_exc]
    cases (ur_rcv (G y) as m && Nat.ble (ur_slots as).length (G y).2.2.1) with
    | true => exact h d y _ r
    | false => exact id
theorem ur_ex_mono1 (G : Nat → ur_P) : ∀ n d k s r, ur_ex G n d k s = some r → ur_ex G (n + 1) d k s = some r
  | 0, _, _, _, _, h => by simp [ur_ex] at h
  | n + 1, d, k, s, r, h => by
    rw [ur_ex_s] at h
    rw [ur_ex_s]
    exact ur_do_mono (fun s r => ur_ex_mono1 G n d k s r) (fun y as m r => ur_exc_mono (fun d k s r => ur_ex_mono1 G n d k s r)) _ r h
theorem ur_ex_mono {G : Nat → ur_P} {n n' d k : Nat} {s : ur_S} {r : ur_V} (hn : n ≤ n') (h : ur_ex G n d k s = some r) : ur_ex G n' d k s = some r := by
  induction hn with
  | refl => exact h
  | step _ ih => exact ur_ex_mono1 G _ d k s r ih
theorem ur_ex_dmono (G : Nat → ur_P) : ∀ n d k s r, ur_ex G n d k s = some r → ur_ex G n (d + 1) k s = some r
  | 0, _, _, _, _, h => by simp [ur_ex] at h
  | n + 1, d, k, s, r, h => by
    rw [ur_ex_s] at h
    rw [ur_ex_s]
    refine ur_do_mono (fun s r => ur_ex_dmono G n d k s r) (fun y as m r => ?_) _ r h
    cases d with
    | zero => intro h; simp [ur_exc] at h
    | succ d =>
      simp only [ur_exc]
      cases (ur_rcv (G y) as m && Nat.ble (ur_slots as).length (G y).2.2.1) with
      | true => exact ur_ex_dmono G n d y _ r
      | false => exact id
theorem ur_det {G : Nat → ur_P} {n n' d k : Nat} {s : ur_S} {r r' : ur_V} (h : ur_ex G n d k s = some r) (h' : ur_ex G n' d k s = some r') : r = r' := by
  have a := ur_ex_mono (Nat.le_max_left n n') h
  have b := ur_ex_mono (Nat.le_max_right n n') h'
  rw [a] at b
  exact Option.some.inj b
noncomputable def ur_at (G : Nat → ur_P) (d k : Nat) (s : ur_S) : Option ur_V := @dite _ (∃ r n, ur_ex G n d k s = some r) (Classical.propDecidable _) (fun h => some (Classical.choose h)) (fun _ => none)
theorem ur_at_iff {G : Nat → ur_P} {d k : Nat} {s : ur_S} {r : ur_V} : ur_at G d k s = some r ↔ ∃ n, ur_ex G n d k s = some r := by
  unfold ur_at
  constructor
  · intro h
    split at h
    next he =>
      have := Classical.choose_spec he
      rw [Option.some.inj h] at this
      exact this
    next => cases h
  · intro h
    split
    next he =>
      obtain ⟨n, hn⟩ := Classical.choose_spec he
      obtain ⟨n', hn'⟩ := h
      rw [ur_det hn hn']
    next he => exact absurd ⟨r, h⟩ he
noncomputable def ur_call (G : Nat → ur_P) (d y : Nat) (as : List Value) (m : ur_M) : Option ur_V := match d with
  | 0 => none
  | d + 1 => bif ur_rcv (G y) as m && Nat.ble (ur_slots as).length (G y).2.2.1 then ur_at G d y (ur_ent (G y) as m) else none
theorem ur_call_iff {G : Nat → ur_P} {d y : Nat} {as : List Value} {m : ur_M} {r : ur_V} : ur_call G d y as m = some r ↔ ∃ n, ur_exc G n d y as m = some r := by
  cases d with
  | zero => simp [ur_call, ur_exc]
  | succ d =>
    simp only [ur_call, ur_exc]
    cases (ur_rcv (G y) as m && Nat.ble (ur_slots as).length (G y).2.2.1) with
    | true => exact ur_at_iff
    | false => simp
theorem ur_do_some {G : Nat → ur_P} {d k : Nat} {r : ur_V} (o : Option ur_A) (h : ur_do (ur_at G d k) (ur_call G d) o = some r) : ∃ n, ur_do (ur_ex G n d k) (ur_exc G n d) o = some r := by
  match o, h with
  | some (.inl (bs, s)), h =>
    revert h
    show bs.foldr (fun q r => bif q.1 then ur_at G d k q.2 else r) (ur_at G d k s) = some r → ∃ n, bs.foldr (fun q r => bif q.1 then ur_ex G n d k q.2 else r) (ur_ex G n d k s) = some r
    induction bs with
    | nil => exact fun h => ur_at_iff.mp h
    | cons q bs ih =>
      simp only [List.foldr_cons]
      cases q.1 with
      | true => exact fun h => ur_at_iff.mp h
      | false => exact ih
  | some (.inr (.inl x)), h => exact ⟨0, h⟩
  | some (.inr (.inr (.inl (y, as, m, f)))), h =>
    obtain ⟨v, h1, h2⟩ := Option.bind_eq_some_iff.mp h
    obtain ⟨n1, h1⟩ := ur_call_iff.mp h1
    obtain ⟨n2, h2⟩ := ur_at_iff.mp h2
    refine ⟨max n1 n2, Option.bind_eq_some_iff.mpr ⟨v, ?_, ur_ex_mono (Nat.le_max_right n1 n2) h2⟩⟩
    exact ur_exc_mono (fun d k s r h => ur_ex_mono (Nat.le_max_left n1 n2) h) h1
  | some (.inr (.inr (.inr (.inl (o, f))))), h =>
    obtain ⟨v, h1, h2⟩ := Option.bind_eq_some_iff.mp h
    obtain ⟨n2, h2⟩ := ur_at_iff.mp h2
    exact ⟨n2, Option.bind_eq_some_iff.mpr ⟨v, h1, h2⟩⟩
  | some (.inr (.inr (.inr (.inr (.inl (o, f)))))), h =>
    obtain ⟨v, h1, h2⟩ := Option.bind_eq_some_iff.mp h
    obtain ⟨n2, h2⟩ := ur_at_iff.mp h2
    exact ⟨n2, Option.bind_eq_some_iff.mpr ⟨v, h1, h2⟩⟩
  | some (.inr (.inr (.inr (.inr (.inr (.inl (o, f))))))), h =>
    obtain ⟨v, h1, h2⟩ := Option.bind_eq_some_iff.mp h
    obtain ⟨n2, h2⟩ := ur_at_iff.mp h2
    exact ⟨n2, Option.bind_eq_some_iff.mpr ⟨v, h1, h2⟩⟩
  | some (.inr (.inr (.inr (.inr (.inr (.inr (o, f))))))), h =>
    obtain ⟨v, h1, h2⟩ := Option.bind_eq_some_iff.mp h
    obtain ⟨n2, h2⟩ := ur_at_iff.mp h2
    exact ⟨n2, Option.bind_eq_some_iff.mpr ⟨v, h1, h2⟩⟩
theorem ur_at_eq (G : Nat → ur_P) (d k : Nat) (s : ur_S) : ur_at G d k s = ur_do (ur_at G d k) (ur_call G d) (ur_stp (G k) s) := by
  apply Option.ext
  intro r
  constructor
  · intro h
    obtain ⟨n, hn⟩ := ur_at_iff.mp h
    cases n with
    | zero => simp [ur_ex] at hn
    | succ n =>
      rw [ur_ex_s] at hn
      exact ur_do_mono (fun s r h => ur_at_iff.mpr ⟨n, h⟩) (fun y as m r h => ur_call_iff.mpr ⟨n, h⟩) _ r hn
  · intro h
    obtain ⟨n, hn⟩ := ur_do_some _ h
    exact ur_at_iff.mpr ⟨n + 1, by rw [ur_ex_s]; exact hn⟩
/-- steps on and on, up to N of them, up to a place where one stops -/
noncomputable def ur_bk (G : Nat → ur_P) (stop : Nat → Bool) (d k : Nat) : Nat → ur_S → Option ur_V
  | 0, s => ur_at G d k s
  | N + 1, s => bif stop s.1 then ur_at G d k s else ur_do (ur_bk G stop d k N) (ur_call G d) (ur_stp (G k) s)
theorem ur_bk_at (G : Nat → ur_P) (stop : Nat → Bool) (d k : Nat) : ∀ N, ur_bk G stop d k N = ur_at G d k
  | 0 => rfl
  | N + 1 => by
    funext s
    simp only [ur_bk]
    rw [ur_bk_at G stop d k N, ← ur_at_eq]
    cases stop s.1 <;> rfl
theorem ur_go (G : Nat → ur_P) (stop : Nat → Bool) (N d k : Nat) (s : ur_S) : ur_at G d k s = ur_do (ur_bk G stop d k N) (ur_call G d) (ur_stp (G k) s) := by
  rw [ur_bk_at]
  exact ur_at_eq G d k s
theorem ur_at_dmono {G : Nat → ur_P} {d k : Nat} {s : ur_S} {r : ur_V} (h : ur_at G d k s = some r) : ur_at G (d + 1) k s = some r := by
  obtain ⟨n, hn⟩ := ur_at_iff.mp h
  exact ur_at_iff.mpr ⟨n, ur_ex_dmono G n d k s r hn⟩
theorem ur_call_s (G : Nat → ur_P) (d y : Nat) (as : List Value) (m : ur_M) (h1 : ur_rcv (G y) as m = true) (h2 : Nat.ble (ur_slots as).length (G y).2.2.1 = true) : ur_call G (d + 1) y as m = ur_at G d y (ur_ent (G y) as m) := by
  simp only [ur_call, h1, h2]
  rfl

/-! CHECKS of the tables' facts, by program -/
def ur_wp (pos : Nat) (w : Cond) : Bool := match lw_tbl[pos]? with
  | some w' => decide (w' = w) && goodWord w'
  | none => false
def ur_np (pos : Nat) (w : Cond) : Bool := match lw_tbl[pos]? with
  | some w' => decide (w' = w)
  | none => false
theorem ur_wp_t {pos : Nat} {w : Cond} (h : ur_wp pos w = true) : w ∈ ur_T := by
  unfold ur_wp at h
  split at h
  next w' hw =>
    simp only [Bool.and_eq_true, decide_eq_true_eq] at h
    obtain ⟨rfl, h⟩ := h
    exact List.mem_filter.mpr ⟨List.mem_of_getElem? hw, h⟩
  next => cases h
theorem ur_np_t {pos : Nat} {a : String} {i : Nat} {y : MethodName} {b : String} (h : ur_np pos (.methodLinkNest a i y b) = true) : Cond.methodLinkNest a i y b ∈ ur_nest := by
  unfold ur_np at h
  split at h
  next w' hw =>
    have h := of_decide_eq_true h
    subst h
    exact List.mem_filter.mpr ⟨List.mem_of_getElem? hw, rfl⟩
  next => cases h
abbrev ur_Q2 : Type := ur_P × ur_NI
def ur_okQ (q : ur_Q2) : Prop := Cond.code q.2.1 q.2.2.1 q.1.2.2.1 q.2.2.2 ∈ ur_T ∧ Jvm.plainName q.2.1.cls = true ∧ (q.2.1.cls ≠ "java/lang/invoke/MethodHandle" ∧ q.2.1.cls ≠ "java/lang/invoke/VarHandle") ∧ q.1.2.2.1 ≤ 40 ∧ Cond.initialized q.2.1.cls ∈ ur_T ∧ ∀ ty, q.2.2.2 = some ty → ∀ a, ur_fit q.1.2.2.2.1 a = true → narrow ty (.int a) = .int a
def ur_PM (q : ur_Q2) : Prop := ur_okQ q ∧ (q.1.2.2.2.2 = 30 → Cond.static q.2.1 ∈ ur_T) ∧ (q.1.2.2.2.2 ≠ 30 → Cond.instanceMethod q.2.1 ∈ ur_T ∧ (q.2.1.name ≠ "<init>" → Cond.selects q.2.1.cls q.2.1 q.2.1 ∈ ur_T)) ∧ (q.1.2.2.2.2 ≠ 30 → (q.1.2.2.2.2 = 20 ∧ q.2.1.cls = "java/lang/String") ∨ (q.1.2.2.2.2 < 11 ∧ ∃ z, vwCl[q.1.2.2.2.2]? = some z ∧ z.1 = q.2.1.cls))
def ur_zok (ret : Option FieldType) (z : Nat) : Bool := match ret with
  | none => true
  | some .int => Nat.beq z 0
  | some .boolean => Nat.beq z 1
  | some .char => Nat.beq z 2
  | some .byte => Nat.beq z 3
  | _ => false
theorem ur_zok_t {ret : Option FieldType} {z : Nat} (h : ur_zok ret z = true) : ∀ ty, ret = some ty → ∀ a, ur_fit z a = true → narrow ty (.int a) = .int a := by
  intro ty hty a ha
  subst hty
  cases ty <;> simp only [ur_zok] at h <;> first | cases h | skip
  all_goals (have hz := Nat.eq_of_beq_eq_true h; subst hz)
  · have ha := of_decide_eq_true (show decide (vp_nar .byte a = a) = true from ha)
    have e : narrow .byte (.int a) = .int (vp_nar .byte a) := rfl
    rw [e, ha]
  · have ha := of_decide_eq_true (show decide (vp_nar .char a = a) = true from ha)
    have e : narrow .char (.int a) = .int (vp_nar .char a) := rfl
    rw [e, ha]
  · rfl
  · have ha : (a == 0 || a == 1) = true := ha
    simp only [Bool.or_eq_true, beq_iff_eq] at ha
    rcases ha with rfl | rfl <;> rfl
def ur_ckM (q : ur_Q2) (p1 p2 p3 p4 : Nat) : Bool := ur_wp p1 (.code q.2.1 q.2.2.1 q.1.2.2.1 q.2.2.2) && Jvm.plainName q.2.1.cls && (decide (q.2.1.cls ≠ "java/lang/invoke/MethodHandle") && decide (q.2.1.cls ≠ "java/lang/invoke/VarHandle")) && Nat.ble q.1.2.2.1 40 && ur_wp p2 (.initialized q.2.1.cls) && ur_zok q.2.2.2 q.1.2.2.2.1 && (bif Nat.beq q.1.2.2.2.2 30 then ur_wp p3 (.static q.2.1) else ur_wp p3 (.instanceMethod q.2.1) && (decide (q.2.1.name = "<init>") || ur_wp p4 (.selects q.2.1.cls q.2.1 q.2.1)) && ((Nat.beq q.1.2.2.2.2 20 && decide (q.2.1.cls = "java/lang/String")) || (Nat.blt q.1.2.2.2.2 11 && (match vwCl[q.1.2.2.2.2]? with
    | some z => decide (z.1 = q.2.1.cls)
    | none => false))))
theorem ur_ckM_t {q : ur_Q2} {p1 p2 p3 p4 : Nat} (h : ur_ckM q p1 p2 p3 p4 = true) : ur_PM q := by
  unfold ur_ckM at h
  simp only [Bool.and_eq_true, decide_eq_true_eq] at h
  obtain ⟨⟨⟨⟨⟨⟨h1, h2⟩, h3⟩, h4⟩, h5⟩, h6⟩, h7⟩ := h
  refine ⟨⟨ur_wp_t h1, h2, h3, Nat.le_of_ble_eq_true h4, ur_wp_t h5, ur_zok_t h6⟩, fun hc => ?_, fun hc => ?_, fun hc => ?_⟩
  · have : Nat.beq q.1.2.2.2.2 30 = true := by rw [hc]; rfl
    rw [this] at h7
    exact ur_wp_t h7
  · have : Nat.beq q.1.2.2.2.2 30 = false := by
      cases hq : Nat.beq q.1.2.2.2.2 30 with
      | true => exact absurd (Nat.eq_of_beq_eq_true hq) hc
      | false => rfl
    rw [this] at h7
    simp only [cond_false, Bool.and_eq_true, Bool.or_eq_true, decide_eq_true_eq] at h7
    refine ⟨ur_wp_t h7.1.1, fun hn => ?_⟩
    rcases h7.1.2 with z | z
    · exact absurd z hn
    · exact ur_wp_t z
  · have : Nat.beq q.1.2.2.2.2 30 = false := by
      cases hq : Nat.beq q.1.2.2.2.2 30 with
      | true => exact absurd (Nat.eq_of_beq_eq_true hq) hc
      | false => rfl
    rw [this] at h7
    simp only [cond_false, Bool.and_eq_true, Bool.or_eq_true, decide_eq_true_eq] at h7
    rcases h7.2 with ⟨z1, z2⟩ | ⟨z1, z2⟩
    · exact Or.inl ⟨Nat.eq_of_beq_eq_true z1, z2⟩
    · split at z2
      next z hz => exact Or.inr ⟨Nat.le_of_ble_eq_true z1, z, hz, of_decide_eq_true z2⟩
      next => cases z2
theorem ur_cd {α : Type} {P : α → Prop} {b : Bool} {x y : α} (hx : P x) (hy : P y) : P (bif b then x else y) := by cases b <;> assumption
-- links: (index, tag, argument, constant)
abbrev ur_L4 : Type := Nat × Nat × Nat × Int32
def ur_PC (GN : Nat → ur_Q2) (x np : Nat) : Prop := ur_okC (fun y => (GN y).1) (fun y => (GN y).2) x np ∧ ur_PM (GN (x / 32))
/-- what a link's row says -/
def ur_PL (GN : Nat → ur_Q2) (own : String) (q : ur_L4) : Prop := match q.2.1 with
  | 0 => ∃ np, ur_PC GN q.2.2.1 np ∧ q.2.2.1 / 2 % 16 = np + 1 ∧ Cond.methodLink own q.1 (GN (q.2.2.1 / 32)).2.1 ∈ ur_T ∧ (GN (q.2.2.1 / 32)).1.2.2.2.2 ≠ 30 ∧ (GN (q.2.2.1 / 32)).2.1.name ≠ "<init>"
  | 1 => ∃ np, ur_PC GN q.2.2.1 np ∧ q.2.2.1 / 2 % 16 = np ∧ (Cond.methodLink own q.1 (GN (q.2.2.1 / 32)).2.1 ∈ ur_T ∨ ∃ host, Cond.methodLinkNest own q.1 (GN (q.2.2.1 / 32)).2.1 host ∈ ur_nest) ∧ (GN (q.2.2.1 / 32)).1.2.2.2.2 = 30
  | 3 => ∃ np, ur_PC GN q.2.2.1 np ∧ q.2.2.1 / 2 % 16 = np + 1 ∧ (Cond.methodLink own q.1 (GN (q.2.2.1 / 32)).2.1 ∈ ur_T ∨ ∃ host, Cond.methodLinkNest own q.1 (GN (q.2.2.1 / 32)).2.1 host ∈ ur_nest) ∧ (GN (q.2.2.1 / 32)).2.1.name = "<init>" ∧ (GN (q.2.2.1 / 32)).2.2.2 = none ∧ (GN (q.2.2.1 / 32)).1.2.2.2.2 < 11
  | 5 => Cond.methodLink own q.1 arraycopyName ∈ ur_T
  | 6 => Cond.methodLink own q.1 Lib.objectInit ∈ ur_T
  | 7 => Cond.methodLink own q.1 Lib.Math.max.name ∈ ur_T
  | 8 => Cond.methodLink own q.1 Lib.Math.min.name ∈ ur_T
  | 10 => q.2.2.1 / 64 < 11 ∧ ∃ (C : String) (T : u_T) (N : Nat), vwCl[q.2.2.1 / 64]? = some (C, T, N) ∧ q.2.2.1 % 64 < N ∧ Cond.fieldLink own q.1 (T (q.2.2.1 % 64)).1 (T (q.2.2.1 % 64)).2.1 (T (q.2.2.1 % 64)).2.2.1 ∈ ur_T
  | 11 => Cond.constant own q.1 q.2.2.2 ∈ ur_T
  | 12 => Cond.constantLong own q.1 (Int64.ofNat q.2.2.1) ∈ ur_T
  | 13 => ∃ (C : String) (T : u_T) (N : Nat), vwCl[q.2.2.1]? = some (C, T, N) ∧ Cond.classLink own q.1 C ∈ ur_T
  | 14 => (q.2.2.1 = 4 ∧ Cond.classLink own q.1 "UnsaidRoom$Night" ∈ ur_T) ∨ (q.2.2.1 = 5 ∧ Cond.classLink own q.1 "UnsaidRoom$Mark" ∈ ur_T)
  | 15 => Cond.fieldLink own q.1 "java/lang/String" "value" "[B" ∈ ur_T
  | 16 => Cond.fieldLink own q.1 "java/lang/String" "coder" "B" ∈ ur_T
  | 17 => Cond.fieldLink own q.1 "java/lang/String" "COMPACT_STRINGS" "Z" ∈ ur_T
  | 18 => Cond.fieldLink own q.1 "jdk/internal/util/Preconditions" "SIOOBE_FORMATTER" "Ljava/util/function/BiFunction;" ∈ ur_T
  | 19 => (own, q.1, q.2.2.1) ∈ ur_strs
  | _ => True
def ur_ckC (GN : Nat → ur_Q2) (NM x np : Nat) : Bool := Nat.blt x 9000 && Nat.blt (x / 32) NM && decide ((parseMethodDescriptor (GN (x / 32)).2.1.desc).map (fun d => d.parameters.length) = some np) && (bif x % 2 == 0 then (GN (x / 32)).2.2.2.isNone else (GN (x / 32)).2.2.2.isSome)
theorem ur_ckC_t {GN : Nat → ur_Q2} {NM x np : Nat} (hM : ∀ y, y < NM → ur_PM (GN y)) (h : ur_ckC GN NM x np = true) : ur_PC GN x np := by
  unfold ur_ckC at h
  simp only [Bool.and_eq_true, decide_eq_true_eq] at h
  obtain ⟨⟨⟨h1, h3⟩, h4⟩, h5⟩ := h
  refine ⟨⟨h1, trivial, (hM _ (Nat.le_of_ble_eq_true h3)).1, h4, ?_⟩, hM _ (Nat.le_of_ble_eq_true h3)⟩
  cases hx : x % 2 == 0 with
  | true =>
    rw [hx] at h5
    exact Or.inl ⟨rfl, Option.isNone_iff_eq_none.mp h5⟩
  | false =>
    rw [hx] at h5
    exact Or.inr ⟨rfl, Option.isSome_iff_exists.mp h5⟩
def ur_ckL (GN : Nat → ur_Q2) (NM : Nat) (own : String) (pos : Nat) (q : ur_L4) : Bool := match q.2.1 with
  | 0 => Nat.ble 1 (q.2.2.1 / 2 % 16) && ur_ckC GN NM q.2.2.1 (q.2.2.1 / 2 % 16 - 1) && ur_wp pos (.methodLink own q.1 (GN (q.2.2.1 / 32)).2.1) && !(Nat.beq (GN (q.2.2.1 / 32)).1.2.2.2.2 30) && decide ((GN (q.2.2.1 / 32)).2.1.name ≠ "<init>")
  | 1 => ur_ckC GN NM q.2.2.1 (q.2.2.1 / 2 % 16) && (ur_wp pos (.methodLink own q.1 (GN (q.2.2.1 / 32)).2.1) || ur_np pos (.methodLinkNest own q.1 (GN (q.2.2.1 / 32)).2.1 "UnsaidRoom")) && Nat.beq (GN (q.2.2.1 / 32)).1.2.2.2.2 30
  | 3 => Nat.ble 1 (q.2.2.1 / 2 % 16) && ur_ckC GN NM q.2.2.1 (q.2.2.1 / 2 % 16 - 1) && (ur_wp pos (.methodLink own q.1 (GN (q.2.2.1 / 32)).2.1) || ur_np pos (.methodLinkNest own q.1 (GN (q.2.2.1 / 32)).2.1 "UnsaidRoom")) && decide ((GN (q.2.2.1 / 32)).2.1.name = "<init>") && (GN (q.2.2.1 / 32)).2.2.2.isNone && Nat.blt (GN (q.2.2.1 / 32)).1.2.2.2.2 11
  | 5 => ur_wp pos (.methodLink own q.1 arraycopyName)
  | 6 => ur_wp pos (.methodLink own q.1 Lib.objectInit)
  | 7 => ur_wp pos (.methodLink own q.1 Lib.Math.max.name)
  | 8 => ur_wp pos (.methodLink own q.1 Lib.Math.min.name)
  | 10 => Nat.blt (q.2.2.1 / 64) 11 && (match vwCl[q.2.2.1 / 64]? with
    | some (_, T, N) => Nat.blt (q.2.2.1 % 64) N && ur_wp pos (.fieldLink own q.1 (T (q.2.2.1 % 64)).1 (T (q.2.2.1 % 64)).2.1 (T (q.2.2.1 % 64)).2.2.1)
    | none => false)
  | 11 => ur_wp pos (.constant own q.1 q.2.2.2)
  | 12 => ur_wp pos (.constantLong own q.1 (Int64.ofNat q.2.2.1))
  | 13 => (match vwCl[q.2.2.1]? with
    | some (C, _, _) => ur_wp pos (.classLink own q.1 C)
    | none => false)
  | 14 => (Nat.beq q.2.2.1 4 && ur_wp pos (.classLink own q.1 "UnsaidRoom$Night")) || (Nat.beq q.2.2.1 5 && ur_wp pos (.classLink own q.1 "UnsaidRoom$Mark"))
  | 15 => ur_wp pos (.fieldLink own q.1 "java/lang/String" "value" "[B")
  | 16 => ur_wp pos (.fieldLink own q.1 "java/lang/String" "coder" "B")
  | 17 => ur_wp pos (.fieldLink own q.1 "java/lang/String" "COMPACT_STRINGS" "Z")
  | 18 => ur_wp pos (.fieldLink own q.1 "jdk/internal/util/Preconditions" "SIOOBE_FORMATTER" "Ljava/util/function/BiFunction;")
  | 19 => decide ((own, q.1, q.2.2.1) ∈ ur_strs)
  | _ => true
theorem ur_ckL_t {GN : Nat → ur_Q2} {NM : Nat} (hM : ∀ y, y < NM → ur_PM (GN y)) {own : String} {pos : Nat} {q : ur_L4} (h : ur_ckL GN NM own pos q = true) : ur_PL GN own q := by
  obtain ⟨idx, tag, x, v⟩ := q
  unfold ur_ckL at h
  unfold ur_PL
  dsimp only at h ⊢
  split at h
  · simp only [Bool.and_eq_true, Bool.not_eq_true', decide_eq_true_eq] at h
    obtain ⟨⟨⟨⟨h0, h1⟩, h2⟩, h3⟩, h4⟩ := h
    have h0 := Nat.le_of_ble_eq_true h0
    exact ⟨_, ur_ckC_t hM h1, by omega, ur_wp_t h2, (fun z => by rw [z] at h3; cases h3), h4⟩
  · simp only [Bool.and_eq_true, Bool.or_eq_true] at h
    obtain ⟨⟨h1, h2⟩, h3⟩ := h
    exact ⟨_, ur_ckC_t hM h1, rfl, h2.imp ur_wp_t (fun z => ⟨_, ur_np_t z⟩), Nat.eq_of_beq_eq_true h3⟩
  · simp only [Bool.and_eq_true, Bool.or_eq_true, decide_eq_true_eq] at h
    obtain ⟨⟨⟨⟨⟨h0, h1⟩, h2⟩, h3⟩, h4⟩, h5⟩ := h
    have h0 := Nat.le_of_ble_eq_true h0
    exact ⟨_, ur_ckC_t hM h1, by omega, h2.imp ur_wp_t (fun z => ⟨_, ur_np_t z⟩), h3, Option.isNone_iff_eq_none.mp h4, Nat.le_of_ble_eq_true h5⟩
  · exact ur_wp_t h
  · exact ur_wp_t h
  · exact ur_wp_t h
  · exact ur_wp_t h
  · simp only [Bool.and_eq_true] at h
    obtain ⟨h1, h2⟩ := h
    split at h2
    next C T N hc =>
      simp only [Bool.and_eq_true] at h2
      exact ⟨Nat.le_of_ble_eq_true h1, C, T, N, hc, Nat.le_of_ble_eq_true h2.1, ur_wp_t h2.2⟩
    next => cases h2
  · exact ur_wp_t h
  · exact ur_wp_t h
  · split at h
    next C T N hc => exact ⟨C, T, N, hc, ur_wp_t h⟩
    next => cases h
  · simp only [Bool.or_eq_true, Bool.and_eq_true] at h
    exact h.imp (fun z => ⟨Nat.eq_of_beq_eq_true z.1, ur_wp_t z.2⟩) (fun z => ⟨Nat.eq_of_beq_eq_true z.1, ur_wp_t z.2⟩)
  · exact ur_wp_t h
  · exact ur_wp_t h
  · exact ur_wp_t h
  · exact ur_wp_t h
  · exact of_decide_eq_true h
  · trivial

def ur_inL (L : List ur_L4) (idx tag x : Nat) (v : Int32) : Bool := L.any (fun q => Nat.beq q.1 idx && (Nat.beq q.2.1 tag && (Nat.beq q.2.2.1 x && decide (q.2.2.2 = v))))
theorem ur_inL_t {L : List ur_L4} {idx tag x : Nat} {v : Int32} (h : ur_inL L idx tag x v = true) : (idx, tag, x, v) ∈ L := by
  obtain ⟨⟨a, b, c, d⟩, h1, h2⟩ := List.any_eq_true.mp h
  simp only [Bool.and_eq_true, decide_eq_true_eq] at h2
  obtain ⟨e1, e2, e3, e4⟩ := h2
  rw [← Nat.eq_of_beq_eq_true e1, ← Nat.eq_of_beq_eq_true e2, ← Nat.eq_of_beq_eq_true e3, ← e4]
  exact h1
/-- the check of an instruction -/
def ur_ckI (L : List ur_L4) (own : String) (ini : Bool) (ret : Option FieldType) (sw : List (Int32 × Nat) × Nat) (pc : Nat) (i : Instr) (n x : Nat) (v : Int32) : Bool := match i with
  | .iconst k => Nat.beq n 1 && decide (Int32.ofInt k = v)
  | .bipush k => Nat.beq n 2 && decide ((Int8.ofInt k).toInt32 = v)
  | .sipush k => Nat.beq n 3 && decide ((Int16.ofInt k).toInt32 = v)
  | .ldc k => Nat.beq n 2 && ((Nat.beq x 0 && ur_inL L k 11 0 v) || (Nat.ble ur_base x && ur_inL L k 19 (x - ur_base) 0))
  | .ldc_w k => Nat.beq n 3 && ur_inL L k 11 0 v
  | .ldc2_w k => Nat.beq n 3 && ur_inL L k 12 x 0
  | .lconst k => Nat.beq n 1 && Nat.beq k x
  | .getstatic k => Nat.beq n 3 && ((Nat.beq x 0 && (decide (v = 1) && ur_inL L k 17 0 0)) || (Nat.beq x (ur_base + 20) && ur_inL L k 18 0 0))
  | .iload_n _ => Nat.beq n 1
  | .lload_n _ => Nat.beq n 1
  | .aload_n _ => Nat.beq n 1
  | .istore_n _ => Nat.beq n 1
  | .lstore_n _ => Nat.beq n 1
  | .astore_n _ => Nat.beq n 1
  | .iload _ => Nat.beq n 2
  | .lload _ => Nat.beq n 2
  | .aload _ => Nat.beq n 2
  | .istore _ => Nat.beq n 2
  | .lstore _ => Nat.beq n 2
  | .astore _ => Nat.beq n 2
  | .iinc _ k => Nat.beq n 3 && decide (Int32.ofInt k = v)
  | .goto o => Nat.beq n 3 && decide ((pc : Int) + o = (x : Int))
  | .ifCond _ o => Nat.beq n 3 && decide ((pc : Int) + o = (x : Int))
  | .if_icmp _ o => Nat.beq n 3 && decide ((pc : Int) + o = (x : Int))
  | .tableswitch dflt lo hi offs => decide (sw.1.map (fun q => (q.1.toInt, (q.2 : Int))) = (List.range offs.toList.length).map (fun (j : Nat) => (lo + (j : Int), (pc : Int) + offs.toList.getD j 0))) && decide ((pc : Int) + dflt = (sw.2 : Int)) && decide (hi + 1 = lo + offs.toList.length)
  | .lookupswitch dflt ps => (ps.toList.zip (ps.toList.drop 1)).all (fun (a, next) => a.1 < next.1) && decide (sw.1.map (fun q => (q.1.toInt, (q.2 : Int))) = ps.toList.map (fun q => (q.1, (pc : Int) + q.2))) && decide ((sw.2 : Int) = (pc : Int) + dflt)
  | .getfield k => Nat.beq n 3 && ((Nat.beq x 5123 && ur_inL L k 15 0 0) || (Nat.beq x 5120 && ur_inL L k 16 0 0) || (ur_inL L k 10 (x / 4) 0 && Nat.beq (ur_kd (x / 256) (x / 4 % 64)) (x % 4)))
  | .putfield k => Nat.beq n 3 && (ur_inL L k 10 (x / 4) 0 && Nat.beq (ur_kd (x / 256) (x / 4 % 64)) (x % 4)) && (match vwCl[x / 256]? with
    | some (_, T, _) => !(T (x / 4 % 64)).2.2.2 || (ini && decide ((T (x / 4 % 64)).1 = own))
    | none => true)
  | .new k => Nat.beq n 3 && ur_inL L k 13 x 0
  | .newarray t => Nat.beq n 2 && (match t with
    | .int => true
    | .long => true
    | .boolean => true
    | .char => true
    | _ => false)
  | .anewarray k => Nat.beq n 3 && ur_inL L k 14 x 0
  | .invokevirtual k => Nat.beq n 3 && ur_inL L k 0 x 0
  | .invokestatic k => Nat.beq n 3 && ((Nat.beq x 9000 && ur_inL L k 5 0 0) || (Nat.beq x 9002 && ur_inL L k 7 0 0) || (Nat.beq x 9003 && ur_inL L k 8 0 0) || ur_inL L k 1 x 0)
  | .invokespecial k => Nat.beq n 3 && ((Nat.beq x 9001 && ur_inL L k 6 0 0) || ur_inL L k 3 x 0)
  | .ireturn => Nat.beq n 1 && ret.isSome
  | .return_ => Nat.beq n 1 && ret.isNone
  | _ => Nat.beq n 1
/-- words of no link -/
def ur_W0 : Prop := (Cond.native arraycopyName ∈ ur_T ∧ Cond.static arraycopyName ∈ ur_T ∧ Cond.initialized "java/lang/System" ∈ ur_T) ∧ (Cond.instanceMethod Lib.objectInit ∈ ur_T ∧ Cond.code Lib.objectInit ⟨#[0xb1]⟩ 1 none ∈ ur_T) ∧ Cond.arrayClass .int ∈ ur_T ∧ Cond.arrayClass .long ∈ ur_T ∧ Cond.arrayClass .boolean ∈ ur_T ∧ Cond.arrayClass .char ∈ ur_T ∧ Cond.static Lib.Math.max.name ∈ ur_T ∧ Cond.initialized "java/lang/Math" ∈ ur_T ∧ Cond.code Lib.Math.max.name Lib.Math.max.code 2 (some .int) ∈ ur_T ∧ Cond.static Lib.Math.min.name ∈ ur_T ∧ Cond.code Lib.Math.min.name Lib.Math.min.code 2 (some .int) ∈ ur_T
theorem ur_nb {a b : Nat} (h : Nat.beq a b = true) : a = b := Nat.eq_of_beq_eq_true h
theorem ur_okF_t {GN : Nat → ur_Q2} {own : String} {k x : Nat} {v : Int32} (h1 : ur_PL GN own (k, 10, x / 4, v)) (h2 : Nat.beq (ur_kd (x / 256) (x / 4 % 64)) (x % 4) = true) : ur_okF own k x := by
  obtain ⟨g1, C, T, N, g2, g3, g4⟩ := h1
  have e : x / 4 / 64 = x / 256 := by rw [Nat.div_div_eq_div_mul]
  dsimp only at g1 g2 g3 g4
  rw [e] at g1 g2
  exact ⟨g1, C, T, N, g2, g3, g4, ur_nb h2⟩
set_option maxHeartbeats 1000000 in
theorem ur_ckI_t {GN : Nat → ur_Q2} (hW0 : ur_W0) {L : List ur_L4} {own : String} (hL : ∀ q ∈ L, ur_PL GN own q) {ini : Bool} {ret : Option FieldType} {sw : List (Int32 × Nat) × Nat} {pc : Nat} {i : Instr} {n x : Nat} {v : Int32} (h : ur_ckI L own ini ret sw pc i n x v = true) : ur_okE (fun y => (GN y).1) (fun y => (GN y).2) own ini ret sw pc i n x v := by
  have hl : ∀ {idx tag x : Nat} {v : Int32}, ur_inL L idx tag x v = true → ur_PL GN own (idx, tag, x, v) := fun h => hL _ (ur_inL_t h)
  cases i <;> simp only [ur_ckI, Bool.and_eq_true, Bool.or_eq_true, decide_eq_true_eq] at h <;> simp only [ur_okE]
  all_goals try exact ur_nb h
  all_goals try exact ⟨ur_nb h.1, h.2⟩
  case ldc k =>
    refine ⟨ur_nb h.1, ?_⟩
    rcases h.2 with z | z
    · exact Or.inl ⟨ur_nb z.1, hl z.2⟩
    · have z1 := Nat.le_of_ble_eq_true z.1
      exact Or.inr ⟨x - ur_base, by omega, hl z.2⟩
  case ldc_w k => exact ⟨ur_nb h.1, hl h.2⟩
  case ldc2_w k => exact ⟨ur_nb h.1, hl h.2⟩
  case lconst k => exact ⟨ur_nb h.1, ur_nb h.2⟩
  case getstatic k =>
    refine ⟨ur_nb h.1, ?_⟩
    rcases h.2 with z | z
    · exact Or.inl ⟨ur_nb z.1, z.2.1, hl z.2.2⟩
    · exact Or.inr ⟨ur_nb z.1, hl z.2⟩
  case tableswitch => exact ⟨h.1.1, h.1.2, h.2⟩
  case lookupswitch => exact ⟨h.1.1, h.1.2, h.2⟩
  case getfield k =>
    refine ⟨ur_nb h.1, ?_⟩
    rcases h.2 with (z | z) | z
    · exact Or.inl ⟨ur_nb z.1, hl z.2⟩
    · exact Or.inr (Or.inl ⟨ur_nb z.1, hl z.2⟩)
    · exact Or.inr (Or.inr (ur_okF_t (hl z.1) z.2))
  case putfield k =>
    refine ⟨ur_nb h.1.1, ur_okF_t (hl h.1.2.1) h.1.2.2, fun C T N hc hf => ?_⟩
    have h2 := h.2
    rw [hc] at h2
    simp only [hf, Bool.not_true, Bool.false_or, Bool.and_eq_true, decide_eq_true_eq] at h2
    exact h2
  case new k => exact ⟨ur_nb h.1, hl h.2⟩
  case newarray t =>
    refine ⟨ur_nb h.1, ?_⟩
    have h2 := h.2
    cases t <;> simp at h2
    · exact hW0.2.2.2.2.1
    · exact hW0.2.2.2.2.2.1
    · exact hW0.2.2.1
    · exact hW0.2.2.2.1
  case anewarray k => exact ⟨ur_nb h.1, hl h.2⟩
  case invokevirtual k =>
    obtain ⟨np, g1, g2, g3, g4, g5⟩ := hl h.2
    have gm := g1.2
    exact ⟨ur_nb h.1, np, g1.1, g2, g3, (gm.2.2.1 g4).1, (gm.2.2.1 g4).2 g5, gm.2.2.2 g4⟩
  case invokestatic k =>
    refine ⟨ur_nb h.1, ?_⟩
    rcases h.2 with ((z | z) | z) | z
    · exact Or.inl ⟨ur_nb z.1, hl z.2, hW0.1.1, hW0.1.2.1, hW0.1.2.2⟩
    · exact Or.inr (Or.inl ⟨ur_nb z.1, hl z.2, hW0.2.2.2.2.2.2.1, hW0.2.2.2.2.2.2.2.1, hW0.2.2.2.2.2.2.2.2.1⟩)
    · exact Or.inr (Or.inr (Or.inl ⟨ur_nb z.1, hl z.2, hW0.2.2.2.2.2.2.2.2.2.1, hW0.2.2.2.2.2.2.2.1, hW0.2.2.2.2.2.2.2.2.2.2⟩))
    · obtain ⟨np, g1, g2, g3, g4⟩ := hl z
      exact Or.inr <| Or.inr <| Or.inr ⟨np, g1.1, g2, g3, g1.2.2.1 g4⟩
  case invokespecial k =>
    refine ⟨ur_nb h.1, ?_⟩
    rcases h.2 with z | z
    · exact Or.inl ⟨ur_nb z.1, hl z.2, hW0.2.1.1, hW0.2.1.2⟩
    · obtain ⟨np, g1, g2, g3, g4, g5, g6⟩ := hl z
      exact Or.inr ⟨np, g1.1, g2, g3, (g1.2.2.2.1 (fun q => absurd g6 (by rw [q]; decide))).1, g4, g5, g6⟩
  case ireturn => exact ⟨ur_nb h.1, Option.isSome_iff_exists.mp h.2⟩
  case return_ => exact ⟨ur_nb h.1, Option.isNone_iff_eq_none.mp h.2⟩
/-- the check of a method's rows -/
def ur_ckR (L : List ur_L4) (q : ur_Q2) (rows : List ur_E) : Bool := rows.all (fun e => (match decode q.2.2.1 e.1 with
    | .ok (i, n) => decide (i = e.2.1) && Nat.beq n e.2.2.1
    | .error _ => false) && ur_ckI L q.2.1.cls (decide (q.2.1.name = "<init>")) q.2.2.2 (q.1.2.1 e.1) e.1 e.2.1 e.2.2.1 e.2.2.2.1 e.2.2.2.2)
def ur_PE (GN : Nat → ur_Q2) (q : ur_Q2) : Prop := ∀ (pc : Nat) (i : Instr) (n x : Nat) (v : Int32), ur_lk q.1.1 pc = some (i, n, x, v) → decode q.2.2.1 pc = .ok (i, n) ∧ ur_okE (fun y => (GN y).1) (fun y => (GN y).2) q.2.1.cls (decide (q.2.1.name = "<init>")) q.2.2.2 (q.1.2.1 pc) pc i n x v
theorem ur_lk_mem : ∀ {L : List ur_E} {pc : Nat} {z : Instr × Nat × Nat × Int32}, ur_lk L pc = some z → (pc, z) ∈ L
  | [], _, _, h => by cases h
  | e :: r, pc, z, h => by
    simp only [ur_lk] at h
    cases hq : Nat.beq e.1 pc with
    | true =>
      rw [hq] at h
      cases h
      rw [← ur_nb hq]
      exact List.mem_cons_self
    | false =>
      rw [hq] at h
      exact List.mem_cons_of_mem _ (ur_lk_mem h)
theorem ur_ckR_t {GN : Nat → ur_Q2} (hW0 : ur_W0) {L : List ur_L4} {q : ur_Q2} (hL : ∀ z ∈ L, ur_PL GN q.2.1.cls z) (h : ur_ckR L q q.1.1 = true) : ur_PE GN q := by
  intro pc i n x v hlk
  have h1 := List.all_eq_true.mp h _ (ur_lk_mem hlk)
  simp only [Bool.and_eq_true] at h1
  obtain ⟨h1, h2⟩ := h1
  refine ⟨?_, ur_ckI_t hW0 hL h2⟩
  split at h1
  next i' n' hd =>
    simp only [Bool.and_eq_true, decide_eq_true_eq] at h1
    rw [hd, h1.1, ur_nb h1.2]
  next => cases h1
theorem ur_ckR_app {L : List ur_L4} {q : ur_Q2} {a b : List ur_E} (ha : ur_ckR L q a = true) (hb : ur_ckR L q b = true) : ur_ckR L q (a ++ b) = true := by
  unfold ur_ckR at *
  rw [List.all_append, ha, hb]
  rfl

/-! THE TEXT and its tokens: pure; the class's lists of words -/
def isBl (c : Nat) : Bool := decide (c = 32) || decide (c = 10)
def isLt (c : Nat) : Bool := decide (97 ≤ c) && decide (c ≤ 122)
def isDg (c : Nat) : Bool := decide (48 ≤ c) && decide (c ≤ 57)
def sgC (c : Nat) : Bool := (decide (40 ≤ c) && decide (c ≤ 43)) || (decide (c = 45) || (decide (59 ≤ c) && decide (c ≤ 61)))
def rnE (t : Nat) (C : Nat → Nat) (p : Nat → Bool) : Nat → Nat → Nat
  | 0, i => i
  | n + 1, i => bif decide (i < t) && p (C i) then rnE t C p n (i + 1) else i
def ruE (q : Nat × (Nat → Nat)) (p : Nat → Bool) (i : Nat) : Nat := rnE q.1 q.2 p (q.1 - i) i
section URTX
variable {q : Nat × (Nat → Nat)} {p : Nat → Bool} {i : Nat}
theorem ruE_y (h : i < q.1) (hp : p (q.2 i) = true) : ruE q p i = ruE q p (i + 1) := by
  unfold ruE
  rw [show q.1 - i = (q.1 - (i + 1)) + 1 by omega]
  show (bif decide (i < q.1) && p (q.2 i) then rnE q.1 q.2 p (q.1 - (i + 1)) (i + 1) else i) = _
  rw [decide_eq_true h, hp]
  rfl
theorem ruE_n (h : q.1 ≤ i ∨ p (q.2 i) = false) : ruE q p i = i := by
  unfold ruE
  cases hn : q.1 - i with
  | zero => rfl
  | succ n =>
    show (bif decide (i < q.1) && p (q.2 i) then rnE q.1 q.2 p n (i + 1) else i) = i
    rcases h with h | h
    · omega
    · rw [h, Bool.and_false]; rfl
theorem ruE_all : ∀ (n i : Nat), n + i = q.1 → i ≤ ruE q p i ∧ ruE q p i ≤ q.1 ∧ (∀ k, i ≤ k → k < ruE q p i → p (q.2 k) = true) ∧ (ruE q p i < q.1 → p (q.2 (ruE q p i)) = false)
  | 0, i, h => by
    rw [ruE_n (Or.inl (by omega))]
    exact ⟨Nat.le_refl _, by omega, fun k h1 h2 => absurd h2 (by omega), fun z => absurd z (by omega)⟩
  | n + 1, i, h => by
    cases hp : p (q.2 i) with
    | false =>
      rw [ruE_n (Or.inr hp)]
      exact ⟨Nat.le_refl _, by omega, fun k h1 h2 => absurd h2 (by omega), fun _ => hp⟩
    | true =>
      rw [ruE_y (by omega) hp]
      obtain ⟨h1, h2, h3, h4⟩ := ruE_all n (i + 1) (by omega)
      refine ⟨by omega, h2, fun k k1 k2 => ?_, h4⟩
      by_cases e : k = i
      · rw [e]; exact hp
      · exact h3 k (by omega) k2
theorem ruE_of (h : i ≤ q.1) : i ≤ ruE q p i ∧ ruE q p i ≤ q.1 ∧ (∀ k, i ≤ k → k < ruE q p i → p (q.2 k) = true) ∧ (ruE q p i < q.1 → p (q.2 (ruE q p i)) = false) := ruE_all (q.1 - i) i (by omega)
end URTX
-- words
def kwl : List (List Nat) := [[18, 15, 15, 13], [21, 14, 19, 1, 9, 4], [8, 15, 12, 4, 19], [4, 15, 15, 18], [16, 5, 18, 19, 15, 14], [1, 7, 5], [9, 14], [19, 20, 1, 25, 19], [23, 1, 12, 11], [19, 8, 15, 23], [19, 16, 5, 1, 11], [2, 21, 18, 14], [13, 9, 14, 21, 20, 5], [7, 21, 5, 19, 20], [23, 9, 6, 5], [3, 8, 9, 12, 4], [20, 1, 24, 13, 1, 14], [14, 15, 20], [1, 14, 4], [15, 18]]
def fcl : List (List Nat) := [[13, 21, 3, 8], [20, 9, 13, 5, 19], [25, 5, 1, 18, 19], [14, 15, 4, 19]]
def okW (ws : List Nat) : Prop := ws.length ≤ 8 ∧ ∀ c ∈ ws, 1 ≤ c ∧ c ≤ 26
theorem kwl_ok : ∀ w ∈ kwl, okW w := by unfold okW; decide
theorem fcl_ok : ∀ w ∈ fcl, okW w := by unfold okW; decide
theorem kwl_txt : ur_txt.getD 0 [] = kwl.flatMap (fun w => w.map (fun c => c + 96) ++ [32]) := by decide
theorem fcl_txt : ur_txt.getD 2 [] = fcl.flatMap (fun w => w.map (fun c => c + 96) ++ [32]) := by decide
theorem wN_app (B : Nat) (a : List Nat) (c : Nat) : wN B (a ++ [c]) = wN B a * B + c := by
  unfold wN
  rw [List.foldl_append]
  rfl
theorem wN_nil (B : Nat) : wN B [] = 0 := rfl
theorem li_cases (a : List Nat) : a = [] ∨ ∃ b c, a = b ++ [c] := by
  rcases List.eq_nil_or_concat a with h | ⟨b, c, h⟩
  · exact Or.inl h
  · exact Or.inr ⟨b, c, by rw [h]; simp⟩
theorem wN_lt {B : Nat} (hB : 27 ≤ B) : ∀ (n : Nat) (a : List Nat), a.length = n → (∀ c ∈ a, 1 ≤ c ∧ c ≤ 26) → wN B a < B ^ n
  | 0, a, h, _ => by
    rw [List.eq_nil_of_length_eq_zero h]
    exact Nat.one_pos
  | n + 1, a, h, hc => by
    rcases li_cases a with rfl | ⟨b, c, rfl⟩
    · cases h
    · rw [wN_app]
      have h1 := wN_lt hB n b (by simpa using h) (fun c hc' => hc c (by simp [hc']))
      have h2 := hc c (by simp)
      have h3 : (wN B b + 1) * B ≤ B ^ n * B := Nat.mul_le_mul_right B h1
      rw [Nat.add_mul, Nat.one_mul] at h3
      rw [Nat.pow_succ]
      omega
theorem wN_inj {B : Nat} (hB : 27 ≤ B) : ∀ (n : Nat) (a b : List Nat), a.length = n → (∀ c ∈ a, 1 ≤ c ∧ c ≤ 26) → (∀ c ∈ b, 1 ≤ c ∧ c ≤ 26) → wN B a = wN B b → a = b
  | 0, a, b, h, _, hb, e => by
    have ha := List.eq_nil_of_length_eq_zero h
    subst ha
    rcases li_cases b with rfl | ⟨b', c, rfl⟩
    · rfl
    · rw [wN_app, wN_nil] at e
      have := hb c (by simp)
      omega
  | n + 1, a, b, h, ha, hb, e => by
    rcases li_cases a with rfl | ⟨a', c, rfl⟩
    · cases h
    · have hc := ha c (by simp)
      rcases li_cases b with rfl | ⟨b', c', rfl⟩
      · rw [wN_app, wN_nil] at e
        omega
      · have hc' := hb c' (by simp)
        rw [wN_app, wN_app] at e
        have e1 : c = c' := by
          have := congrArg (fun z => z % B) e
          simp only [Nat.mul_add_mod_self_right] at this
          rw [Nat.mod_eq_of_lt (by omega), Nat.mod_eq_of_lt (by omega)] at this
          exact this
        subst e1
        have e2 : wN B a' = wN B b' := by
          have : wN B a' * B = wN B b' * B := by omega
          exact Nat.eq_of_mul_eq_mul_right (by omega) this
        rw [wN_inj hB n a' b' (by simpa using h) (fun c q => ha c (by simp [q])) (fun c q => hb c (by simp [q])) e2]
theorem wN_63 {B : Nat} (hB : 27 ≤ B) (hB2 : B ≤ 32) {a : List Nat} (h : okW a) : wN B a < 2 ^ 63 := by
  have h1 := wN_lt hB a.length a rfl h.2
  have h2 : B ^ a.length ≤ 32 ^ 8 := Nat.le_trans (Nat.pow_le_pow_left hB2 _) (Nat.pow_le_pow_right (by decide) h.1)
  have h3 : 32 ^ 8 < 2 ^ 63 := by decide
  omega
theorem w_eq {B : Nat} (hB : 27 ≤ B) (hB2 : B ≤ 32) {a b : List Nat} (ha : okW a) (hb : okW b) : decide (lN (wN B a) = lN (wN B b)) = decide (a = b) := by
  have e : lN (wN B a) = lN (wN B b) ↔ a = b := by
    rw [pk_lEQ (wN_63 hB hB2 ha) (wN_63 hB hB2 hb)]
    exact ⟨wN_inj hB a.length a b rfl ha.2 hb.2, fun e => by rw [e]⟩
  simp only [e]
theorem lg_0 (a b : Int64) : decide (lg_cmp a b ≠ 0) = !decide (a = b) := by
  unfold lg_cmp
  by_cases h : a = b
  · subst h
    rw [if_neg (Int64.lt_irrefl), if_pos rfl, decide_eq_true rfl]
    rfl
  · rw [decide_eq_false h]
    by_cases h2 : a > b
    · rw [if_pos h2]; rfl
    · rw [if_neg h2, if_neg h]; rfl
theorem lg_z (a b : Int64) : decide (lg_cmp a b = 0) = decide (a = b) := by
  have := lg_0 a b
  by_cases h : lg_cmp a b = 0
  · rw [decide_eq_false (fun z => z h)] at this
    rw [decide_eq_true h]
    cases hd : decide (a = b) with
    | true => rfl
    | false => rw [hd] at this; cases this
  · rw [decide_eq_true h] at this
    rw [decide_eq_false h]
    cases hd : decide (a = b) with
    | true => rw [hd] at this; cases this
    | false => rfl
/-- a word looked for in a list of words -/
def nuI : List Nat → Int64 → Nat → Int64 → Int32
  | [], _, _, _ => -1
  | c :: r, ls, k, x => bif decide (c = 32) then (bif decide (ls = x) then nI k else nuI r 0 (k + 1) x) else nuI r (ls * 32 + lN (c - 96)) k x
def fiI : List (List Nat) → Nat → Int64 → Int32
  | [], _, _ => -1
  | w :: r, k, x => bif decide (lN (wN 32 w) = x) then nI k else fiI r (k + 1) x
theorem nuI_w : ∀ (w rest : List Nat) (a k : Nat) (x : Int64), (∀ c ∈ w, 1 ≤ c ∧ c ≤ 26) → nuI (w.map (fun c => c + 96) ++ 32 :: rest) (lN a) k x = bif decide (lN (w.foldl (fun a c => a * 32 + c) a) = x) then nI k else nuI rest 0 (k + 1) x
  | [], rest, a, k, x, _ => by
    show (bif decide (32 = 32) then _ else _) = _
    rw [decide_eq_true rfl]
    rfl
  | c :: w, rest, a, k, x, h => by
    have hc := h c (by simp)
    show (bif decide (c + 96 = 32) then _ else nuI (w.map (fun c => c + 96) ++ 32 :: rest) (lN a * 32 + lN (c + 96 - 96)) k x) = _
    rw [decide_eq_false (by omega), cond_false, show (32 : Int64) = lN 32 from rfl, lN_mul, lN_add, show c + 96 - 96 = c by omega, nuI_w w rest (a * 32 + c) k x (fun c hc' => h c (by simp [hc']))]
    rfl
theorem nuI_f : ∀ (W : List (List Nat)) (k : Nat) (x : Int64), (∀ w ∈ W, okW w) → nuI (W.flatMap (fun w => w.map (fun c => c + 96) ++ [32])) 0 k x = fiI W k x
  | [], _, _, _ => rfl
  | w :: W, k, x, h => by
    have h1 := nuI_w w (W.flatMap (fun w => w.map (fun c => c + 96) ++ [32])) 0 k x (h w (by simp)).2
    rw [nuI_f W (k + 1) x (fun w hw => h w (by simp [hw]))] at h1
    rw [List.flatMap_cons, List.append_assoc]
    exact h1
def ixW : List (List Nat) → List Nat → Nat
  | [], _ => 0
  | w :: r, ws => bif decide (w = ws) then 0 else ixW r ws + 1
theorem ixW_le : ∀ (W : List (List Nat)) (ws : List Nat), ixW W ws ≤ W.length
  | [], _ => Nat.le_refl 0
  | w :: W, ws => by
    have := ixW_le W ws
    show (bif decide (w = ws) then 0 else ixW W ws + 1) ≤ W.length + 1
    cases decide (w = ws) <;> simp <;> omega
theorem fiI_w : ∀ (W : List (List Nat)) (k : Nat) (ws : List Nat), (∀ w ∈ W, okW w) → okW ws → fiI W k (lN (wN 32 ws)) = bif decide (ixW W ws < W.length) then nI (k + ixW W ws) else -1
  | [], _, _, _, _ => rfl
  | w :: W, k, ws, h, hw => by
    show (bif decide (lN (wN 32 w) = lN (wN 32 ws)) then nI k else fiI W (k + 1) (lN (wN 32 ws))) = bif decide ((bif decide (w = ws) then 0 else ixW W ws + 1) < W.length + 1) then nI (k + (bif decide (w = ws) then 0 else ixW W ws + 1)) else -1
    rw [w_eq (by decide) (by decide) (h w (by simp)) hw, fiI_w W (k + 1) ws (fun w hw => h w (by simp [hw])) hw]
    cases decide (w = ws) with
    | true => simp only [cond_true]; rw [decide_eq_true (by omega)]; rfl
    | false =>
      simp only [cond_false]
      rw [show k + (ixW W ws + 1) = k + 1 + ixW W ws by omega]
      by_cases e : ixW W ws < W.length
      · rw [decide_eq_true e, decide_eq_true (by omega)]
      · rw [decide_eq_false e, decide_eq_false (by omega)]
theorem ixW_is : ∀ (W : List (List Nat)) (ws : List Nat) (k : Nat), k < W.length → ixW W ws = k → W.getD k [] = ws
  | [], _, _, h, _ => absurd h (by simp)
  | w :: W, ws, k, h, e => by
    have e' : (bif decide (w = ws) then 0 else ixW W ws + 1) = k := e
    by_cases hd : w = ws
    · rw [decide_eq_true hd] at e'
      have : k = 0 := e'.symm
      subst this
      exact hd
    · rw [decide_eq_false hd] at e'
      have : k = ixW W ws + 1 := e'.symm
      subst this
      exact ixW_is W ws _ (by simpa using h) rfl
/-- a word's kind: 100 and its number among the keywords, else 3 -/
def kwK (ws : List Nat) : Nat := bif decide (ixW kwl ws < 20) then 100 + ixW kwl ws else 3
def fcK (ws : List Nat) : Nat := ixW fcl ws
theorem kw_at : ∀ k, k < 20 → ixW kwl (kwl.getD k []) = k := by decide
theorem fc_at : ∀ k, k < 4 → ixW fcl (fcl.getD k []) = k := by decide
theorem kw_d {k : Nat} (hk : k < 20) (ws : List Nat) : decide (ws = kwl.getD k []) = decide (kwK ws = 100 + k) := by
  unfold kwK
  by_cases e : ws = kwl.getD k []
  · rw [decide_eq_true e, e, kw_at k hk, decide_eq_true hk, cond_true, decide_eq_true rfl]
  · rw [decide_eq_false e]
    symm
    by_cases h : ixW kwl ws < 20
    · rw [decide_eq_true h, cond_true]
      refine decide_eq_false (fun z => e ?_)
      exact (ixW_is kwl ws k (show k < 20 from hk) (by omega)).symm
    · rw [decide_eq_false h, cond_false]
      exact decide_eq_false (by omega)
theorem fc_d {k : Nat} (hk : k < 4) (ws : List Nat) : decide (ws = fcl.getD k []) = decide (fcK ws = k) := by
  unfold fcK
  by_cases e : ws = fcl.getD k []
  · rw [decide_eq_true e, e, fc_at k hk, decide_eq_true rfl]
  · rw [decide_eq_false e]
    symm
    exact decide_eq_false (fun z => e (ixW_is fcl ws k (show k < 4 from hk) z).symm)
theorem fc_kw {ws : List Nat} (h : fcK ws < 4) : kwK ws = 3 := by
  have e : fcl.getD (fcK ws) [] = ws := ixW_is fcl ws _ h rfl
  rw [← e]
  exact (by decide : ∀ k, k < 4 → kwK (fcl.getD k []) = 3) _ h
/-- a word of the reference, by its number by 27 -/
theorem w27 {k : Nat} (hk : k < 20) {x : Int64} (hx : x = lN (wN 27 (kwl.getD k []))) {ws : List Nat} (h : okW ws) : decide (lN (wN 27 ws) = x) = decide (kwK ws = 100 + k) := by
  have hm : kwl.getD k [] ∈ kwl := by
    have hl : k < kwl.length := hk
    rw [List.getD_eq_getElem?_getD, List.getElem?_eq_getElem hl]
    exact List.getElem_mem hl
  rw [hx, w_eq (by decide) (by decide) h (kwl_ok _ hm), kw_d hk]
theorem f27 {k : Nat} (hk : k < 4) {x : Int64} (hx : x = lN (wN 27 (fcl.getD k []))) {ws : List Nat} (h : okW ws) : decide (lN (wN 27 ws) = x) = decide (fcK ws = k) := by
  have hm : fcl.getD k [] ∈ fcl := by
    have hl : k < fcl.length := hk
    rw [List.getD_eq_getElem?_getD, List.getElem?_eq_getElem hl]
    exact List.getElem_mem hl
  rw [hx, w_eq (by decide) (by decide) h (fcl_ok _ hm), fc_d hk]
-- tokens
def bgT (q : Nat × (Nat → Nat)) (i : Nat) : Nat := ruE q isBl i
def enB (q : Nat × (Nat → Nat)) (b : Nat) : Nat := bif decide (q.1 ≤ b) then b else bif isLt (q.2 b) then ruE q isLt b else bif isDg (q.2 b) then ruE q isDg b else b + 1
def enT (q : Nat × (Nat → Nat)) (i : Nat) : Nat := enB q (bgT q i)
def lwT (q : Nat × (Nat → Nat)) (b k : Nat) : List Nat := (List.range k).map (fun j => q.2 (b + j) - 96)
def wlT (q : Nat × (Nat → Nat)) (i : Nat) : List Nat := lwT q (bgT q i) (enT q i - bgT q i)
def nmD (q : Nat × (Nat → Nat)) (b k : Nat) : Nat := itr (fun j a => a * 10 + (q.2 (b + j) - 48)) k 0
def nmT (q : Nat × (Nat → Nat)) (i : Nat) : Nat := nmD q (bgT q i) (enT q i - bgT q i)
def kdB (q : Nat × (Nat → Nat)) (b : Nat) : Nat := bif decide (q.1 ≤ b) then 1 else bif isLt (q.2 b) then (bif decide (ruE q isLt b - b ≤ 8) then kwK (lwT q b (ruE q isLt b - b)) else 0) else bif isDg (q.2 b) then (bif decide (ruE q isDg b - b ≤ 4) then 2 else 0) else bif sgC (q.2 b) then q.2 b else 0
def kdT (q : Nat × (Nat → Nat)) (i : Nat) : Nat := kdB q (bgT q i)
def isW (k : Nat) : Prop := k = 3 ∨ 100 ≤ k
theorem lwT_s (B : Nat) (q : Nat × (Nat → Nat)) (b k : Nat) : wN B (lwT q b (k + 1)) = wN B (lwT q b k) * B + (q.2 (b + k) - 96) := by
  unfold lwT
  rw [List.range_succ, List.map_append]
  exact wN_app B _ _
theorem lwT_ok {q : Nat × (Nat → Nat)} {b k : Nat} (hk : k ≤ 8) (h : ∀ j, j < k → isLt (q.2 (b + j)) = true) : okW (lwT q b k) := by
  refine ⟨by unfold lwT; simpa using hk, fun c hc => ?_⟩
  unfold lwT at hc
  rw [List.mem_map] at hc
  obtain ⟨j, hj, rfl⟩ := hc
  have := h j (List.mem_range.mp hj)
  unfold isLt at this
  rw [Bool.and_eq_true, decide_eq_true_eq, decide_eq_true_eq] at this
  omega
theorem kwK_v (ws : List Nat) : kwK ws = 3 ∨ (100 ≤ kwK ws ∧ kwK ws < 120) := by
  unfold kwK
  by_cases h : ixW kwl ws < 20
  · rw [decide_eq_true h, cond_true]; omega
  · rw [decide_eq_false h, cond_false]; exact Or.inl rfl
section URTK
variable {q : Nat × (Nat → Nat)} {i b : Nat}
theorem bgT_le (h : i ≤ q.1) : i ≤ bgT q i ∧ bgT q i ≤ q.1 := ⟨(ruE_of h).1, (ruE_of h).2.1⟩
theorem enB_le (h : b ≤ q.1) : b ≤ enB q b ∧ enB q b ≤ q.1 ∧ (b < q.1 → b < enB q b) := by
  unfold enB
  by_cases h1 : q.1 ≤ b
  · rw [decide_eq_true h1, cond_true]; exact ⟨Nat.le_refl _, h, fun z => absurd z (by omega)⟩
  · rw [decide_eq_false h1, cond_false]
    have lt1 : ∀ p : Nat → Bool, p (q.2 b) = true → b < ruE q p b := fun p hp => by
      rw [ruE_y (by omega) hp]
      have := (ruE_of (q := q) (p := p) (i := b + 1) (by omega)).1
      omega
    cases h2 : isLt (q.2 b) with
    | true =>
      rw [cond_true]
      have := ruE_of (q := q) (p := isLt) (i := b) h
      exact ⟨this.1, this.2.1, fun _ => lt1 _ h2⟩
    | false =>
      rw [cond_false]
      cases h3 : isDg (q.2 b) with
      | true =>
        rw [cond_true]
        have := ruE_of (q := q) (p := isDg) (i := b) h
        exact ⟨this.1, this.2.1, fun _ => lt1 _ h3⟩
      | false => rw [cond_false]; exact ⟨by omega, by omega, fun _ => by omega⟩
theorem kdB_1 : kdB q b = 1 ↔ q.1 ≤ b := by
  unfold kdB
  by_cases h1 : q.1 ≤ b
  · rw [decide_eq_true h1, cond_true]; exact ⟨fun _ => h1, fun _ => rfl⟩
  · rw [decide_eq_false h1, cond_false]
    refine ⟨fun z => ?_, fun z => absurd z h1⟩
    exfalso
    revert z
    cases isLt (q.2 b) with
    | true =>
      rw [cond_true]
      cases decide (ruE q isLt b - b ≤ 8) with
      | true => rw [cond_true]; have := kwK_v (lwT q b (ruE q isLt b - b)); omega
      | false => rw [cond_false]; omega
    | false =>
      rw [cond_false]
      cases isDg (q.2 b) with
      | true => rw [cond_true]; cases decide (ruE q isDg b - b ≤ 4) <;> simp
      | false =>
        rw [cond_false]
        cases hs : sgC (q.2 b) with
        | false => simp
        | true =>
          rw [cond_true]
          intro z
          rw [z] at hs
          exact absurd hs (by decide)
theorem tk_next (h : i ≤ q.1) : enT q i ≤ q.1 ∧ (kdT q i ≠ 1 → i < enT q i) ∧ i ≤ enT q i := by
  have h1 := bgT_le h
  have h2 := enB_le h1.2
  refine ⟨h2.2.1, fun z => ?_, Nat.le_trans h1.1 h2.1⟩
  have : ¬ q.1 ≤ bgT q i := fun e => z (kdB_1.mpr e)
  have h3 := h2.2.2 (by omega)
  unfold enT
  omega
/-- a word's letters -/
theorem tk_w (h : i ≤ q.1) (hw : isW (kdT q i)) : okW (wlT q i) ∧ kdT q i = kwK (wlT q i) ∧ isLt (q.2 (bgT q i)) = true ∧ ¬ q.1 ≤ bgT q i ∧ enT q i - bgT q i ≤ 8 ∧ enT q i = ruE q isLt (bgT q i) := by
  have h1 := bgT_le h
  unfold wlT enT enB
  unfold isW kdT kdB at hw
  unfold kdT kdB
  by_cases h2 : q.1 ≤ bgT q i
  · rw [decide_eq_true h2, cond_true] at hw; omega
  · rw [decide_eq_false h2, cond_false] at hw ⊢
    rw [cond_false]
    cases h3 : isLt (q.2 (bgT q i)) with
    | false =>
      exfalso
      rw [h3, cond_false] at hw
      revert hw
      cases isDg (q.2 (bgT q i)) with
      | true => rw [cond_true]; cases decide (ruE q isDg (bgT q i) - bgT q i ≤ 4) <;> simp
      | false =>
        rw [cond_false]
        cases hs : sgC (q.2 (bgT q i)) with
        | false => simp
        | true =>
          rw [cond_true]
          intro z
          unfold sgC at hs
          simp only [Bool.or_eq_true, Bool.and_eq_true, decide_eq_true_eq] at hs
          omega
    | true =>
      rw [h3, cond_true] at hw
      simp only [cond_true]
      by_cases h4 : ruE q isLt (bgT q i) - bgT q i ≤ 8
      · rw [decide_eq_true h4, cond_true]
        refine ⟨lwT_ok h4 (fun j hj => ?_), rfl, trivial, h2, h4, trivial⟩
        have := ruE_of (q := q) (p := isLt) (i := bgT q i) h1.2
        exact this.2.2.1 _ (by omega) (by omega)
      · rw [decide_eq_false h4, cond_false] at hw; omega
end URTK

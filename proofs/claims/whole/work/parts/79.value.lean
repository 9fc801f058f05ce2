/-! THE E: its value, by the class's steps and by the reference's codes -/
abbrev uVF : Type := Int32 → Int32 → Int32 → Int32 → Int32
def runL (u t y n : Int32) (r : List Int32) (x : Nat × (Nat → Int32)) : Nat × (Nat → Int32) := r.foldl (fun x c => stX u t y n c x) x
def wkL (A : Nat → Int32) : List Int32 → (Nat → Nat → Int32) × Nat → Option ((Nat → Nat → Int32) × Nat)
  | [], x => some x
  | c :: r, x => (stW A c x).bind (wkL A r)
theorem wkL_app (A : Nat → Int32) : ∀ (a b : List Int32) (x : (Nat → Nat → Int32) × Nat), wkL A (a ++ b) x = (wkL A a x).bind (wkL A b)
  | [], _, _ => rfl
  | c :: a, b, x => by
    show (stW A c x).bind (wkL A (a ++ b)) = ((stW A c x).bind (wkL A a)).bind (wkL A b)
    cases stW A c x with
    | none => rfl
    | some y => exact wkL_app A a b y
theorem runL_app {u t y n : Int32} (a b : List Int32) (x : Nat × (Nat → Int32)) : runL u t y n (a ++ b) x = runL u t y n b (runL u t y n a x) := List.foldl_append
def vAt (v : uVF) (A : Nat → Int32) : Int32 := v (A 1) (A 2) (A 3) (A 4)
def Hm (m w : Nat) : Nat := 1 + 4 * (5 - w) + (4 - m)
/-- the steps push the value -/
def RX (H : Nat) (r : List Int32) (v : uVF) : Prop := ∀ u t y n x, x.1 + H ≤ 32 → ∃ K, runL u t y n r x = (x.1 + 1, K) ∧ K x.1 = v u t y n ∧ ∀ k, k < x.1 → K k = x.2 k
def pendV (W : Nat → Nat → Int32) (w : Nat) : Int32 := bif decide (W 5 w ≠ 21) then W 4 w + W 6 w else W 4 w - W 6 w
def tstV (W : Nat → Nat → Int32) (w : Nat) : Int32 := bif decide (W 3 w ≠ 25) then (bif decide (W 3 w ≠ 24) then pendV W w else bif decide (pendV W w ≤ W 2 w) then 0 else 1) else bif decide (W 2 w ≠ pendV W w) then 0 else 1
def fulV (W : Nat → Nat → Int32) (w : Nat) : Int32 := bif decide (W 1 w ≠ 27) then (bif decide (W 1 w ≠ 26) then tstV W w else bif decide (W 0 w = 0) then 0 else bif decide (tstV W w = 0) then 0 else 1) else bif decide (W 0 w ≠ 0) then 1 else bif decide ((bif decide (W 1 w ≠ 26) then tstV W w else bif decide (W 0 w = 0) then 0 else bif decide (tstV W w = 0) then 0 else 1) = 0) then 0 else 1
def prE (m : Nat) (W : Nat → Nat → Int32) (w : Nat) : Prop := W 7 w = 0 ∧ (m ≤ 2 → W 4 w = 0 ∧ W 5 w = 20) ∧ (m ≤ 1 → W 3 w = 0) ∧ (m = 0 → W 1 w = 0)
def vlE (m : Nat) (W : Nat → Nat → Int32) (w : Nat) : Int32 := match m with
  | 0 => fulV W w
  | 1 => tstV W w
  | 2 => pendV W w
  | _ => W 6 w
def kpE (m k : Nat) : Prop := (m = 3 → k ≠ 6 ∧ k ≠ 7) ∧ (m = 2 → k < 4 ∨ 7 < k) ∧ (m = 1 → k < 2 ∨ 7 < k) ∧ (m = 0 → 7 < k)
def bwE (W : Nat → Nat → Int32) (w : Nat) : Prop := w = 0 ∨ W 8 w ≠ 1
def MLv (m w : Nat) (c : List Int32) (v : uVF) : Prop := ∀ A W, bwE W w → prE m W w → ∃ W', wkL A c (W, w) = some (W', w) ∧ (∀ k e, e < w → W' k e = W k e) ∧ (∀ k, kpE m k → W' k w = W k w) ∧ vlE m W' w = vAt v A
def M4v (w : Nat) (c : List Int32) (v : uVF) : Prop := ∀ A W, ∃ W', (∀ k e, e ≤ w → W' k e = W k e) ∧ wkL A c (W, w) = some (peW W' w (vAt v A))
def MLo (m w : Nat) (c : List Int32) (F : uVF → uVF) : Prop := ∀ A W v, bwE W w → (m = 1 → W 3 w = 0) → vlE m W w = vAt v A → ∃ W', wkL A c (W, w) = some (W', w) ∧ (∀ k e, e < w → W' k e = W k e) ∧ (∀ k, kpE m k → W' k w = W k w) ∧ vlE m W' w = vAt (F v) A
-- what the reference's words do
section URVL
variable {W : Nat → Nat → Int32} {w : Nat} {A : Nat → Int32}
theorem uW_s {a k : Nat} {v : Int32} : ur_u W a k v a k = v := ur_us
theorem uW_n {a k b : Nat} {v : Int32} (h : b ≠ a) (j : Nat) : ur_u W a k v b j = W b j := by rw [ur_ua h]
theorem uW_d {a k b j : Nat} {v : Int32} (h : j ≠ k) : ur_u W a k v b j = W b j := by
  by_cases e : b = a
  · rw [e, ur_un h]
  · rw [ur_ua e]
theorem sW_4 : sW W w 4 w = pendV W w := by unfold sW; rw [uW_n (by decide), uW_s]; rfl
theorem sW_7 : sW W w 7 w = 0 := by unfold sW; rw [uW_s]
theorem sW_k {k : Nat} (h4 : k ≠ 4) (h7 : k ≠ 7) (j : Nat) : sW W w k j = W k j := by unfold sW; rw [uW_n h7, uW_n h4]
theorem sW_d {k j : Nat} (h : j ≠ w) : sW W w k j = W k j := by unfold sW; rw [uW_d h, uW_d h]
theorem tV_ful : tV (sW W w) w = fulV W w := by
  unfold tV tV4 tV3 tV2 tV1 fulV tstV
  rw [sW_4, sW_k (by decide) (by decide), sW_k (by decide) (by decide), sW_k (by decide) (by decide), sW_k (by decide) (by decide)]
theorem tW_0 : tW W w 0 w = fulV W w := by
  unfold tW tF
  rw [uW_n (by decide), uW_n (by decide), uW_n (by decide), uW_s, tV_ful]
theorem tW_3 : tW W w 3 w = 0 := by unfold tW tF; rw [uW_n (by decide), uW_n (by decide), uW_s]
theorem tW_4 : tW W w 4 w = 0 := by unfold tW tF; rw [uW_n (by decide), uW_s]
theorem tW_5 : tW W w 5 w = 20 := by unfold tW tF; rw [uW_s]
theorem tW_7 : tW W w 7 w = 0 := by unfold tW tF; rw [uW_n (by decide), uW_n (by decide), uW_n (by decide), uW_n (by decide), sW_7]
theorem tW_8 (j : Nat) : tW W w 8 j = W 8 j := by unfold tW tF; rw [uW_n (by decide), uW_n (by decide), uW_n (by decide), uW_n (by decide), sW_k (by decide) (by decide)]
theorem tW_d {k j : Nat} (h : j ≠ w) : tW W w k j = W k j := by unfold tW tF; rw [uW_d h, uW_d h, uW_d h, uW_d h, sW_d h]
-- a code at a time
theorem st_20 : stW A 20 (W, w) = some (ur_u (sW W w) 5 w 20, w) := rfl
theorem st_21 : stW A 21 (W, w) = some (ur_u (sW W w) 5 w 21, w) := rfl
theorem st_22 : stW A 22 (W, w) = some (ur_u W 7 w 22, w) := rfl
theorem st_24 : stW A 24 (W, w) = some (cpW W w 24, w) := rfl
theorem st_25 : stW A 25 (W, w) = some (cpW W w 25, w) := rfl
theorem st_26 : stW A 26 (W, w) = some (ur_u (tW W w) 1 w 26, w) := rfl
theorem st_27 : stW A 27 (W, w) = some (ur_u (tW W w) 1 w 27, w) := rfl
theorem st_28 (h : w < 6) : stW A 28 (W, w) = some (oW (ur_u W 8 (w + 1) 0) (w + 1), w + 1) := by
  show opW W w 28 = _
  unfold opW
  rw [decide_eq_true h]
  rfl
theorem st_30 (h : w < 6) : stW A 30 (W, w) = some (oW (ur_u W 8 (w + 1) 1) (w + 1), w + 1) := by
  show opW W w 30 = _
  unfold opW
  rw [decide_eq_true h]
  rfl
theorem st_29 : stW A 29 (W, w + 1) = some (peW (tW W (w + 1)) w (tW W (w + 1) 0 (w + 1))) := rfl
theorem st_num {k : Nat} (hk : k < 10000) : stW A (nI (100 + k)) (W, w) = some (peW W w (nI k)) := by
  have ne : ∀ c, c < 100 → decide (nI (100 + k) = nI c) = false := fun c hc => by rw [d_eq (by omega) (by omega)]; exact decide_eq_false (by omega)
  have nn : ∀ c, c < 100 → decide (nI (100 + k) ≠ nI c) = true := fun c hc => decide_eq_true (fun z => by
    have := (nI_eq (show 100 + k < 2 ^ 31 by omega) (show c < 2 ^ 31 by omega)).mp z
    omega)
  unfold stW vaW
  rw [show decide (nI (100 + k) = (28 : Int32)) = false from ne 28 (by decide), show decide (nI (100 + k) ≠ (30 : Int32)) = true from nn 30 (by decide), show decide (nI (100 + k) = (20 : Int32)) = false from ne 20 (by decide), show decide (nI (100 + k) ≠ (21 : Int32)) = true from nn 21 (by decide), show decide (nI (100 + k) ≠ (22 : Int32)) = true from nn 22 (by decide), show decide (nI (100 + k) = (24 : Int32)) = false from ne 24 (by decide), show decide (nI (100 + k) ≠ (25 : Int32)) = true from nn 25 (by decide), show decide (nI (100 + k) = (26 : Int32)) = false from ne 26 (by decide), show decide (nI (100 + k) ≠ (27 : Int32)) = true from nn 27 (by decide), show decide (nI (100 + k) < (100 : Int32)) = false from decide_eq_false (nI_nlt (a := 100 + k) (b := 100) (by omega) (by omega)), show decide (nI (100 + k) ≠ (29 : Int32)) = true from nn 29 (by decide), show nI (100 + k) - (100 : Int32) = nI k from by rw [show (100 : Int32) = nI 100 from rfl, pk_sub (by omega), show 100 + k - 100 = k by omega]]
  rfl
theorem st_fc {k : Nat} (hk : k < 4) : stW A (nI (k + 1)) (W, w) = some (peW W w (A (k + 1))) := by
  match k, hk with
  | 0, _ => rfl
  | 1, _ => rfl
  | 2, _ => rfl
  | 3, _ => rfl
theorem noW_b (h : bwE W w) (v : Int32) : noW W w v = (w, v) := by
  cases w with
  | zero => rfl
  | succ w =>
    rcases h with h | h
    · cases h
    · show (bif decide (W 8 (w + 1) ≠ 1) then (w + 1, v) else noW W w _) = _
      rw [decide_eq_true h]
      rfl
theorem peW_b (h : bwE W w) (v : Int32) : peW W w v = (ur_u W 6 w (bif decide (W 7 w ≠ 0) then W 6 w * v else v), w) := by
  unfold peW
  rw [noW_b h]
end URVL
-- the class's steps
section URVS
variable {u t y n : Int32}
theorem puX_y {x : Nat × (Nat → Int32)} {v : Int32} (h : x.1 < 32) : puX x v = (x.1 + 1, up x.2 x.1 v) := by
  unfold puX
  rw [decide_eq_false (by omega)]
  rfl
theorem RX_leaf {H : Nat} {c : Int32} {v : uVF} (hH : 1 ≤ H) (h : ∀ u t y n x, stX u t y n c x = puX x (v u t y n)) : RX H [c] v := by
  intro u t y n x hx
  refine ⟨up x.2 x.1 (v u t y n), ?_, up_s, fun k hk => up_n (by omega)⟩
  show stX u t y n c x = _
  rw [h, puX_y (by omega)]
theorem RX_mono {H H' : Nat} {r : List Int32} {v : uVF} (h : RX H r v) (hh : H ≤ H') : RX H' r v := fun u t y n x hx => h u t y n x (by omega)
theorem st_not (x : Nat × (Nat → Int32)) : stX u t y n (-117) x = puX (poX x) (bif decide (poV x ≠ 0) then 0 else 1) := rfl
theorem RX_not {H : Nat} {r : List Int32} {v : uVF} (h : RX H r v) (hH : 1 ≤ H) : RX H (r ++ [-117]) (fun u t y n => bif decide (v u t y n ≠ 0) then 0 else 1) := by
  intro u t y n x hx
  obtain ⟨K, k1, k2, k3⟩ := h u t y n x hx
  refine ⟨up K x.1 (bif decide (v u t y n ≠ 0) then 0 else 1), ?_, up_s, fun k hk => by rw [up_n (by omega), k3 k hk]⟩
  rw [runL_app, k1]
  show stX u t y n (-117) (x.1 + 1, K) = _
  rw [st_not]
  unfold poX poV
  dsimp only
  rw [decide_eq_false (show ¬ x.1 + 1 = 0 by omega), cond_false, show x.1 + 1 - 1 = x.1 by omega, k2, puX_y (by show x.1 < 32; omega)]
theorem st_bin {k : Nat} (hk : k = 42 ∨ k = 43 ∨ k = 45 ∨ k = 60 ∨ k = 61 ∨ k = 118 ∨ k = 119) (x : Nat × (Nat → Int32)) : stX u t y n (-nI k) x = puX (poX (poX x)) (jnX (nI k) (poV (poX x)) (poV x)) := by
  rcases hk with rfl | rfl | rfl | rfl | rfl | rfl | rfl
  · unfold stX foX
    rw [show decide (-nI 42 = (-117 : Int32)) = false from by decide, cond_false, show decide (-nI 42 = (-4 : Int32)) = false from by decide, cond_false, show decide (-nI 42 = (-3 : Int32)) = false from by decide, cond_false, show decide (-nI 42 = (-2 : Int32)) = false from by decide, cond_false, show decide (-nI 42 = (-1 : Int32)) = false from by decide, cond_false, show decide (-nI 42 < (0 : Int32)) = true from by decide, cond_true, Int32.neg_neg]
  · unfold stX foX
    rw [show decide (-nI 43 = (-117 : Int32)) = false from by decide, cond_false, show decide (-nI 43 = (-4 : Int32)) = false from by decide, cond_false, show decide (-nI 43 = (-3 : Int32)) = false from by decide, cond_false, show decide (-nI 43 = (-2 : Int32)) = false from by decide, cond_false, show decide (-nI 43 = (-1 : Int32)) = false from by decide, cond_false, show decide (-nI 43 < (0 : Int32)) = true from by decide, cond_true, Int32.neg_neg]
  · unfold stX foX
    rw [show decide (-nI 45 = (-117 : Int32)) = false from by decide, cond_false, show decide (-nI 45 = (-4 : Int32)) = false from by decide, cond_false, show decide (-nI 45 = (-3 : Int32)) = false from by decide, cond_false, show decide (-nI 45 = (-2 : Int32)) = false from by decide, cond_false, show decide (-nI 45 = (-1 : Int32)) = false from by decide, cond_false, show decide (-nI 45 < (0 : Int32)) = true from by decide, cond_true, Int32.neg_neg]
  · unfold stX foX
    rw [show decide (-nI 60 = (-117 : Int32)) = false from by decide, cond_false, show decide (-nI 60 = (-4 : Int32)) = false from by decide, cond_false, show decide (-nI 60 = (-3 : Int32)) = false from by decide, cond_false, show decide (-nI 60 = (-2 : Int32)) = false from by decide, cond_false, show decide (-nI 60 = (-1 : Int32)) = false from by decide, cond_false, show decide (-nI 60 < (0 : Int32)) = true from by decide, cond_true, Int32.neg_neg]
  · unfold stX foX
    rw [show decide (-nI 61 = (-117 : Int32)) = false from by decide, cond_false, show decide (-nI 61 = (-4 : Int32)) = false from by decide, cond_false, show decide (-nI 61 = (-3 : Int32)) = false from by decide, cond_false, show decide (-nI 61 = (-2 : Int32)) = false from by decide, cond_false, show decide (-nI 61 = (-1 : Int32)) = false from by decide, cond_false, show decide (-nI 61 < (0 : Int32)) = true from by decide, cond_true, Int32.neg_neg]
  · unfold stX foX
    rw [show decide (-nI 118 = (-117 : Int32)) = false from by decide, cond_false, show decide (-nI 118 = (-4 : Int32)) = false from by decide, cond_false, show decide (-nI 118 = (-3 : Int32)) = false from by decide, cond_false, show decide (-nI 118 = (-2 : Int32)) = false from by decide, cond_false, show decide (-nI 118 = (-1 : Int32)) = false from by decide, cond_false, show decide (-nI 118 < (0 : Int32)) = true from by decide, cond_true, Int32.neg_neg]
  · unfold stX foX
    rw [show decide (-nI 119 = (-117 : Int32)) = false from by decide, cond_false, show decide (-nI 119 = (-4 : Int32)) = false from by decide, cond_false, show decide (-nI 119 = (-3 : Int32)) = false from by decide, cond_false, show decide (-nI 119 = (-2 : Int32)) = false from by decide, cond_false, show decide (-nI 119 = (-1 : Int32)) = false from by decide, cond_false, show decide (-nI 119 < (0 : Int32)) = true from by decide, cond_true, Int32.neg_neg]
theorem RX_bin {H : Nat} {k : Nat} (hk : k = 42 ∨ k = 43 ∨ k = 45 ∨ k = 60 ∨ k = 61 ∨ k = 118 ∨ k = 119) {r1 r2 : List Int32} {v1 v2 : uVF} (h1 : RX (H + 1) r1 v1) (h2 : RX H r2 v2) : RX (H + 1) (r1 ++ (r2 ++ [-nI k])) (fun u t y n => jnX (nI k) (v1 u t y n) (v2 u t y n)) := by
  intro u t y n x hx
  obtain ⟨K, k1, k2, k3⟩ := h1 u t y n x hx
  obtain ⟨K2, l1, l2, l3⟩ := h2 u t y n (x.1 + 1, K) (by show x.1 + 1 + H ≤ 32; omega)
  refine ⟨up K2 x.1 (jnX (nI k) (v1 u t y n) (v2 u t y n)), ?_, up_s, fun j hj => by rw [up_n (by omega), l3 j (by show j < x.1 + 1; omega)]; exact k3 j hj⟩
  rw [runL_app, k1, runL_app, l1]
  show stX u t y n (-nI k) (x.1 + 1 + 1, K2) = _
  rw [st_bin hk]
  have e1 : poV (x.1 + 1 + 1, K2) = v2 u t y n := by
    unfold poV
    dsimp only
    rw [decide_eq_false (by omega), cond_false]
    exact l2
  have e2 : poV (poX (x.1 + 1 + 1, K2)) = v1 u t y n := by
    unfold poV poX
    dsimp only
    rw [decide_eq_false (by omega), cond_false]
    have := l3 x.1 (by show x.1 < x.1 + 1; omega)
    rw [show x.1 + 1 + 1 - 1 - 1 = x.1 by omega]
    exact this.trans k2
  rw [e1, e2]
  show puX (x.1 + 1 + 1 - 1 - 1, K2) _ = _
  rw [show x.1 + 1 + 1 - 1 - 1 = x.1 by omega, puX_y (by show x.1 < 32; omega)]
end URVS

/-! THE CLASS READS TOKENS -/
theorem t_fit : ∀ c, c < 128 → ((((nI c &&& (255 : Int32))).toUInt32 % 65536).toInt32) = nI c ∧ ur_fit 2 (nI c) = true := by decide +kernel
theorem txt_128 : ∀ j, j < 3 → ∀ k, k < (ur_txt.getD j []).length → (ur_txt.getD j []).getD k 0 < 128 := by decide +kernel
theorem li_drop (l : List Nat) {k : Nat} (h : k < l.length) : l.drop k = l.getD k 0 :: l.drop (k + 1) := by
  rw [List.drop_eq_getElem_cons h, List.getD_eq_getElem?_getD, List.getElem?_eq_getElem h]
  rfl
section URST
variable {s : List (Nat ⊕ (Nat × Nat))} {f f' f1 f2 l V V' : Nat → Nat → Int32} {g g' : Nat → Nat → Int64} {R : Nat → Nat → Option Nat} {d b j p n k a i e : Nat} {x y : Int32} {u w : Int64} {q : Nat × (Nat → Nat)}
theorem sh_no (hS : s.length ≤ 1000) {a : Nat} (ha : 1000 ≤ a) : s[a]? = none := List.getElem?_eq_none (by omega)
theorem u_cod0 {m : ur_M} : ur_call ur_G (d + 1) 258 [.ref 2000] m = some (0, m) := ur_cl rfl rfl (e_J0_coder_7d493_0 _ _ rfl)
theorem u_lat0 {m : ur_M} : ur_call ur_G (d + 1) 259 [.ref 2000] m = some (1, m) := ur_cl rfl rfl (e_J0_isLatin1_aae02_0 _ _ rfl)
theorem u_ln0 (hS : s.length ≤ 1000) : ur_len (s, f, g, R) 2010 = some (nI 106) := by
  unfold ur_len
  rw [show (s, f, g, R).1[2010]? = none from sh_no hS (by decide)]
  rfl
theorem u_len0 (hS : s.length ≤ 1000) : ur_call ur_G (d + 2) 254 [.ref 2000] (s, f, g, R) = some (nI 106, (s, f, g, R)) := by
  refine ur_cl rfl rfl (e_J0_length_8abf5_0 _ _ ?_)
  rw [show ur_fR (s, f, g, R) 2000 20 0 = some 2010 from rfl, Option.bind_some, u_ln0 hS, Option.bind_some, u_cod0, Option.bind_some, sc_shr0 (by decide)]
theorem u_at0 (hk : k < 106) : ur_aB (s, f, g, R) 2010 (nI k) = some (nI ((ur_txt.getD 0 []).getD k 0)) := by
  unfold ur_aB
  rw [show decide (2010 < ur_base) = false from rfl, cond_false]
  show (bif decide (ur_base + 10 ≤ 2010) && ur_inb (nI k) 106 then some (nI ((ur_txt.getD 0 []).getD (nI k).toNatClampNeg 0)) else none) = _
  rw [v_inb hk (by decide), nI_clamp (by omega)]
  rfl
theorem u_chr0 (hS : s.length ≤ 1000) (hk : k < 106) : ur_call ur_G (d + 5) 255 [.ref 2000, .int (nI k)] (s, f, g, R) = some (nI ((ur_txt.getD 0 []).getD k 0), (s, f, g, R)) := by
  obtain ⟨t1, t2⟩ := t_fit _ (txt_128 0 (by decide) k (show k < 106 from hk))
  have c3 : ur_call ur_G (d + 2) 266 [.int (nI k), .int (nI 106), .ref 2020] (s, f, g, R) = some (nI k, (s, f, g, R)) := by
    refine ur_cl rfl rfl (e_J3_checkIndex_8e157_0 _ _ _ _ ?_)
    rw [decide_eq_false (nI_pos (show k < 2 ^ 31 by omega)), cond_false, decide_eq_true (nI_lt hk (by decide)), cond_true]
  have c2 : ur_call ur_G (d + 3) 260 [.int (nI k), .int (nI 106)] (s, f, g, R) = some (0, (s, f, g, R)) := by
    refine ur_cl rfl rfl (e_J0_checkIndex_df160_0 _ _ _ ?_)
    rw [c3, Option.bind_some]
  have c1 : ur_call ur_G (d + 4) 261 [.ref 2010, .int (nI k)] (s, f, g, R) = some (nI ((ur_txt.getD 0 []).getD k 0), (s, f, g, R)) := by
    refine ur_cl rfl rfl (e_J1_charAt_3b067_0 _ _ _ ?_)
    rw [u_ln0 hS, Option.bind_some, c2, Option.bind_some]
    simp only [u_at0 hk, Option.bind_some, t1, t2, cond_true]
  refine ur_cl rfl rfl (e_J0_charAt_5068e_0 _ _ _ ?_)
  rw [u_lat0, Option.bind_some, show decide ((1 : Int32) = 0) = false from by decide, cond_false, show ur_fR (s, f, g, R) 2000 20 0 = some 2010 from rfl, Option.bind_some, c1, Option.bind_some]
  simp only [t2, cond_true]
theorem u_num0' (hS : s.length ≤ 1000) (hT : ∀ k, k < 106 → (ur_txt.getD 0 []).getD k 0 = 32 ∨ 97 ≤ (ur_txt.getD 0 []).getD k 0) : ∀ (n k j : Nat) (v : Int64), n + k = 106 → ur_at ur_G (d + 5) 137 (8, [some (.ref 2000), some (.long u), none, some (.long v), none, some (.int (nI j)), some (.int (nI k)), none], [], (s, f, g, R)) = some (nuI ((ur_txt.getD 0 []).drop k) v j u, (s, f, g, R)) := by
  intro n
  induction n with
  | zero =>
    intro k j v hk
    have : k = 106 := by omega
    subst this
    refine e_X9_numberIn_8 _ _ _ _ _ _ ?_
    rw [u_len0 hS, Option.bind_some, show decide (nI 106 ≤ nI 106) = true from by decide, cond_true]
    rfl
  | succ n ih =>
    intro k j v hk
    have hd : (ur_txt.getD 0 []).drop k = (ur_txt.getD 0 []).getD k 0 :: (ur_txt.getD 0 []).drop (k + 1) := li_drop _ (show k < 106 by omega)
    refine e_X9_numberIn_8 _ _ _ _ _ _ ?_
    rw [u_len0 hS, Option.bind_some, d_le (by decide) (show k < 2 ^ 31 by omega), decide_eq_false (show ¬ 106 ≤ k by omega), cond_false, u_chr0 hS (show k < 106 by omega), Option.bind_some, hd, nI_1, nI_1, lg_0]
    have h128 := txt_128 0 (by decide) k (show k < 106 by omega)
    rcases hT k (by omega) with h32 | h97
    · rw [h32]
      show (bif decide (nI 32 = (32 : Int32)) then _ else _) = some (bif decide (32 = 32) then (bif decide (v = u) then nI j else nuI ((ur_txt.getD 0 []).drop (k + 1)) 0 (j + 1) u) else _, _)
      rw [show decide (nI 32 = (32 : Int32)) = true from by decide, cond_true, decide_eq_true rfl, cond_true]
      cases decide (v = u) with
      | true => rfl
      | false => exact ih (k + 1) (j + 1) 0 (by omega)
    · generalize (ur_txt.getD 0 []).getD k 0 = c at h97 h128
      show (bif decide (nI c = (32 : Int32)) then _ else _) = some (bif decide (c = 32) then _ else nuI ((ur_txt.getD 0 []).drop (k + 1)) (v * 32 + lN (c - 96)) j u, _)
      rw [show decide (nI c = (32 : Int32)) = false from decide_eq_false (fun z => absurd ((nI_eq (a := c) (b := 32) (by omega) (by decide)).mp z) (by omega)), cond_false, decide_eq_false (show ¬ c = 32 by omega), cond_false, show (97 : Int32) = nI 97 from rfl, pk_sub h97, nI_1, show c - 97 + 1 = c - 96 by omega, nI_l (by omega)]
      exact ih (k + 1) j _ (by omega)
theorem u_cod1 {m : ur_M} : ur_call ur_G (d + 1) 258 [.ref 2001] m = some (0, m) := ur_cl rfl rfl (e_J0_coder_7d493_0 _ _ rfl)
theorem u_lat1 {m : ur_M} : ur_call ur_G (d + 1) 259 [.ref 2001] m = some (1, m) := ur_cl rfl rfl (e_J0_isLatin1_aae02_0 _ _ rfl)
theorem u_ln1 (hS : s.length ≤ 1000) : ur_len (s, f, g, R) 2011 = some (nI 8) := by
  unfold ur_len
  rw [show (s, f, g, R).1[2011]? = none from sh_no hS (by decide)]
  rfl
theorem u_len1 (hS : s.length ≤ 1000) : ur_call ur_G (d + 2) 254 [.ref 2001] (s, f, g, R) = some (nI 8, (s, f, g, R)) := by
  refine ur_cl rfl rfl (e_J0_length_8abf5_0 _ _ ?_)
  rw [show ur_fR (s, f, g, R) 2001 20 0 = some 2011 from rfl, Option.bind_some, u_ln1 hS, Option.bind_some, u_cod1, Option.bind_some, sc_shr0 (by decide)]
theorem u_at1 (hk : k < 8) : ur_aB (s, f, g, R) 2011 (nI k) = some (nI ((ur_txt.getD 1 []).getD k 0)) := by
  unfold ur_aB
  rw [show decide (2011 < ur_base) = false from rfl, cond_false]
  show (bif decide (ur_base + 10 ≤ 2011) && ur_inb (nI k) 8 then some (nI ((ur_txt.getD 1 []).getD (nI k).toNatClampNeg 0)) else none) = _
  rw [v_inb hk (by decide), nI_clamp (by omega)]
  rfl
theorem u_chr1 (hS : s.length ≤ 1000) (hk : k < 8) : ur_call ur_G (d + 5) 255 [.ref 2001, .int (nI k)] (s, f, g, R) = some (nI ((ur_txt.getD 1 []).getD k 0), (s, f, g, R)) := by
  obtain ⟨t1, t2⟩ := t_fit _ (txt_128 1 (by decide) k (show k < 8 from hk))
  have c3 : ur_call ur_G (d + 2) 266 [.int (nI k), .int (nI 8), .ref 2020] (s, f, g, R) = some (nI k, (s, f, g, R)) := by
    refine ur_cl rfl rfl (e_J3_checkIndex_8e157_0 _ _ _ _ ?_)
    rw [decide_eq_false (nI_pos (show k < 2 ^ 31 by omega)), cond_false, decide_eq_true (nI_lt hk (by decide)), cond_true]
  have c2 : ur_call ur_G (d + 3) 260 [.int (nI k), .int (nI 8)] (s, f, g, R) = some (0, (s, f, g, R)) := by
    refine ur_cl rfl rfl (e_J0_checkIndex_df160_0 _ _ _ ?_)
    rw [c3, Option.bind_some]
  have c1 : ur_call ur_G (d + 4) 261 [.ref 2011, .int (nI k)] (s, f, g, R) = some (nI ((ur_txt.getD 1 []).getD k 0), (s, f, g, R)) := by
    refine ur_cl rfl rfl (e_J1_charAt_3b067_0 _ _ _ ?_)
    rw [u_ln1 hS, Option.bind_some, c2, Option.bind_some]
    simp only [u_at1 hk, Option.bind_some, t1, t2, cond_true]
  refine ur_cl rfl rfl (e_J0_charAt_5068e_0 _ _ _ ?_)
  rw [u_lat1, Option.bind_some, show decide ((1 : Int32) = 0) = false from by decide, cond_false, show ur_fR (s, f, g, R) 2001 20 0 = some 2011 from rfl, Option.bind_some, c1, Option.bind_some]
  simp only [t2, cond_true]
theorem u_num1' (hS : s.length ≤ 1000) (hT : ∀ k, k < 8 → (ur_txt.getD 1 []).getD k 0 = 32 ∨ 97 ≤ (ur_txt.getD 1 []).getD k 0) : ∀ (n k j : Nat) (v : Int64), n + k = 8 → ur_at ur_G (d + 5) 137 (8, [some (.ref 2001), some (.long u), none, some (.long v), none, some (.int (nI j)), some (.int (nI k)), none], [], (s, f, g, R)) = some (nuI ((ur_txt.getD 1 []).drop k) v j u, (s, f, g, R)) := by
  intro n
  induction n with
  | zero =>
    intro k j v hk
    have : k = 8 := by omega
    subst this
    refine e_X9_numberIn_8 _ _ _ _ _ _ ?_
    rw [u_len1 hS, Option.bind_some, show decide (nI 8 ≤ nI 8) = true from by decide, cond_true]
    rfl
  | succ n ih =>
    intro k j v hk
    have hd : (ur_txt.getD 1 []).drop k = (ur_txt.getD 1 []).getD k 0 :: (ur_txt.getD 1 []).drop (k + 1) := li_drop _ (show k < 8 by omega)
    refine e_X9_numberIn_8 _ _ _ _ _ _ ?_
    rw [u_len1 hS, Option.bind_some, d_le (by decide) (show k < 2 ^ 31 by omega), decide_eq_false (show ¬ 8 ≤ k by omega), cond_false, u_chr1 hS (show k < 8 by omega), Option.bind_some, hd, nI_1, nI_1, lg_0]
    have h128 := txt_128 1 (by decide) k (show k < 8 by omega)
    rcases hT k (by omega) with h32 | h97
    · rw [h32]
      show (bif decide (nI 32 = (32 : Int32)) then _ else _) = some (bif decide (32 = 32) then (bif decide (v = u) then nI j else nuI ((ur_txt.getD 1 []).drop (k + 1)) 0 (j + 1) u) else _, _)
      rw [show decide (nI 32 = (32 : Int32)) = true from by decide, cond_true, decide_eq_true rfl, cond_true]
      cases decide (v = u) with
      | true => rfl
      | false => exact ih (k + 1) (j + 1) 0 (by omega)
    · generalize (ur_txt.getD 1 []).getD k 0 = c at h97 h128
      show (bif decide (nI c = (32 : Int32)) then _ else _) = some (bif decide (c = 32) then _ else nuI ((ur_txt.getD 1 []).drop (k + 1)) (v * 32 + lN (c - 96)) j u, _)
      rw [show decide (nI c = (32 : Int32)) = false from decide_eq_false (fun z => absurd ((nI_eq (a := c) (b := 32) (by omega) (by decide)).mp z) (by omega)), cond_false, decide_eq_false (show ¬ c = 32 by omega), cond_false, show (97 : Int32) = nI 97 from rfl, pk_sub h97, nI_1, show c - 97 + 1 = c - 96 by omega, nI_l (by omega)]
      exact ih (k + 1) j _ (by omega)
theorem u_cod2 {m : ur_M} : ur_call ur_G (d + 1) 258 [.ref 2002] m = some (0, m) := ur_cl rfl rfl (e_J0_coder_7d493_0 _ _ rfl)
theorem u_lat2 {m : ur_M} : ur_call ur_G (d + 1) 259 [.ref 2002] m = some (1, m) := ur_cl rfl rfl (e_J0_isLatin1_aae02_0 _ _ rfl)
theorem u_ln2 (hS : s.length ≤ 1000) : ur_len (s, f, g, R) 2012 = some (nI 22) := by
  unfold ur_len
  rw [show (s, f, g, R).1[2012]? = none from sh_no hS (by decide)]
  rfl
theorem u_len2 (hS : s.length ≤ 1000) : ur_call ur_G (d + 2) 254 [.ref 2002] (s, f, g, R) = some (nI 22, (s, f, g, R)) := by
  refine ur_cl rfl rfl (e_J0_length_8abf5_0 _ _ ?_)
  rw [show ur_fR (s, f, g, R) 2002 20 0 = some 2012 from rfl, Option.bind_some, u_ln2 hS, Option.bind_some, u_cod2, Option.bind_some, sc_shr0 (by decide)]
theorem u_at2 (hk : k < 22) : ur_aB (s, f, g, R) 2012 (nI k) = some (nI ((ur_txt.getD 2 []).getD k 0)) := by
  unfold ur_aB
  rw [show decide (2012 < ur_base) = false from rfl, cond_false]
  show (bif decide (ur_base + 10 ≤ 2012) && ur_inb (nI k) 22 then some (nI ((ur_txt.getD 2 []).getD (nI k).toNatClampNeg 0)) else none) = _
  rw [v_inb hk (by decide), nI_clamp (by omega)]
  rfl
theorem u_chr2 (hS : s.length ≤ 1000) (hk : k < 22) : ur_call ur_G (d + 5) 255 [.ref 2002, .int (nI k)] (s, f, g, R) = some (nI ((ur_txt.getD 2 []).getD k 0), (s, f, g, R)) := by
  obtain ⟨t1, t2⟩ := t_fit _ (txt_128 2 (by decide) k (show k < 22 from hk))
  have c3 : ur_call ur_G (d + 2) 266 [.int (nI k), .int (nI 22), .ref 2020] (s, f, g, R) = some (nI k, (s, f, g, R)) := by
    refine ur_cl rfl rfl (e_J3_checkIndex_8e157_0 _ _ _ _ ?_)
    rw [decide_eq_false (nI_pos (show k < 2 ^ 31 by omega)), cond_false, decide_eq_true (nI_lt hk (by decide)), cond_true]
  have c2 : ur_call ur_G (d + 3) 260 [.int (nI k), .int (nI 22)] (s, f, g, R) = some (0, (s, f, g, R)) := by
    refine ur_cl rfl rfl (e_J0_checkIndex_df160_0 _ _ _ ?_)
    rw [c3, Option.bind_some]
  have c1 : ur_call ur_G (d + 4) 261 [.ref 2012, .int (nI k)] (s, f, g, R) = some (nI ((ur_txt.getD 2 []).getD k 0), (s, f, g, R)) := by
    refine ur_cl rfl rfl (e_J1_charAt_3b067_0 _ _ _ ?_)
    rw [u_ln2 hS, Option.bind_some, c2, Option.bind_some]
    simp only [u_at2 hk, Option.bind_some, t1, t2, cond_true]
  refine ur_cl rfl rfl (e_J0_charAt_5068e_0 _ _ _ ?_)
  rw [u_lat2, Option.bind_some, show decide ((1 : Int32) = 0) = false from by decide, cond_false, show ur_fR (s, f, g, R) 2002 20 0 = some 2012 from rfl, Option.bind_some, c1, Option.bind_some]
  simp only [t2, cond_true]
theorem u_num2' (hS : s.length ≤ 1000) (hT : ∀ k, k < 22 → (ur_txt.getD 2 []).getD k 0 = 32 ∨ 97 ≤ (ur_txt.getD 2 []).getD k 0) : ∀ (n k j : Nat) (v : Int64), n + k = 22 → ur_at ur_G (d + 5) 137 (8, [some (.ref 2002), some (.long u), none, some (.long v), none, some (.int (nI j)), some (.int (nI k)), none], [], (s, f, g, R)) = some (nuI ((ur_txt.getD 2 []).drop k) v j u, (s, f, g, R)) := by
  intro n
  induction n with
  | zero =>
    intro k j v hk
    have : k = 22 := by omega
    subst this
    refine e_X9_numberIn_8 _ _ _ _ _ _ ?_
    rw [u_len2 hS, Option.bind_some, show decide (nI 22 ≤ nI 22) = true from by decide, cond_true]
    rfl
  | succ n ih =>
    intro k j v hk
    have hd : (ur_txt.getD 2 []).drop k = (ur_txt.getD 2 []).getD k 0 :: (ur_txt.getD 2 []).drop (k + 1) := li_drop _ (show k < 22 by omega)
    refine e_X9_numberIn_8 _ _ _ _ _ _ ?_
    rw [u_len2 hS, Option.bind_some, d_le (by decide) (show k < 2 ^ 31 by omega), decide_eq_false (show ¬ 22 ≤ k by omega), cond_false, u_chr2 hS (show k < 22 by omega), Option.bind_some, hd, nI_1, nI_1, lg_0]
    have h128 := txt_128 2 (by decide) k (show k < 22 by omega)
    rcases hT k (by omega) with h32 | h97
    · rw [h32]
      show (bif decide (nI 32 = (32 : Int32)) then _ else _) = some (bif decide (32 = 32) then (bif decide (v = u) then nI j else nuI ((ur_txt.getD 2 []).drop (k + 1)) 0 (j + 1) u) else _, _)
      rw [show decide (nI 32 = (32 : Int32)) = true from by decide, cond_true, decide_eq_true rfl, cond_true]
      cases decide (v = u) with
      | true => rfl
      | false => exact ih (k + 1) (j + 1) 0 (by omega)
    · generalize (ur_txt.getD 2 []).getD k 0 = c at h97 h128
      show (bif decide (nI c = (32 : Int32)) then _ else _) = some (bif decide (c = 32) then _ else nuI ((ur_txt.getD 2 []).drop (k + 1)) (v * 32 + lN (c - 96)) j u, _)
      rw [show decide (nI c = (32 : Int32)) = false from decide_eq_false (fun z => absurd ((nI_eq (a := c) (b := 32) (by omega) (by decide)).mp z) (by omega)), cond_false, decide_eq_false (show ¬ c = 32 by omega), cond_false, show (97 : Int32) = nI 97 from rfl, pk_sub h97, nI_1, show c - 97 + 1 = c - 96 by omega, nI_l (by omega)]
      exact ih (k + 1) j _ (by omega)
theorem txt_l0 : ∀ k, k < 106 → (ur_txt.getD 0 []).getD k 0 = 32 ∨ 97 ≤ (ur_txt.getD 0 []).getD k 0 := by decide +kernel
theorem txt_l2 : ∀ k, k < 22 → (ur_txt.getD 2 []).getD k 0 = 32 ∨ 97 ≤ (ur_txt.getD 2 []).getD k 0 := by decide +kernel
theorem u_num0 (hS : s.length ≤ 1000) : ur_call ur_G (d + 6) 137 [.ref 2000, .long u] (s, f, g, R) = some (fiI kwl 0 u, (s, f, g, R)) := by
  refine ur_cl rfl rfl (e_X9_numberIn_0 _ _ _ ?_)
  have h := u_num0' (d := d) (f := f) (g := g) (R := R) (u := u) hS txt_l0 106 0 0 0 rfl
  rw [show (ur_txt.getD 0 []).drop 0 = ur_txt.getD 0 [] from rfl, kwl_txt, nuI_f kwl 0 u kwl_ok] at h
  exact h
theorem u_num2 (hS : s.length ≤ 1000) : ur_call ur_G (d + 6) 137 [.ref 2002, .long u] (s, f, g, R) = some (fiI fcl 0 u, (s, f, g, R)) := by
  refine ur_cl rfl rfl (e_X9_numberIn_0 _ _ _ ?_)
  have h := u_num2' (d := d) (f := f) (g := g) (R := R) (u := u) hS txt_l2 22 0 0 0 rfl
  rw [show (ur_txt.getD 2 []).drop 0 = ur_txt.getD 2 [] from rfl, fcl_txt, nuI_f fcl 0 u fcl_ok] at h
  exact h
theorem i8_c : ∀ c, c < 128 → (nI c).toInt8.toInt32 = nI c := by decide +kernel
theorem sg_in : ∀ c, c < 128 → (sgC c = true ↔ ∃ k, k < 8 ∧ (ur_txt.getD 1 []).getD k 0 = c) := by decide +kernel
/-- a sign looked for among the signs -/
theorem u_ixs (hS : s.length ≤ 1000) {c : Nat} (hc : c < 128) : ∃ v, ur_call ur_G (d + 6) 256 [.ref 2001, .int (nI c)] (s, f, g, R) = some (v, (s, f, g, R)) ∧ decide (v < 0) = !sgC c := by
  have key : ∀ (n k : Nat), n + k = 8 → (∀ i, i < k → (ur_txt.getD 1 []).getD i 0 ≠ c) → ∃ v, ur_at ur_G (d + 2) 264 (7, [some (.ref 2011), none, none, some (.int (nI 8)), some (.int (nI c)), some (.int (nI k))], [], (s, f, g, R)) = some (v, (s, f, g, R)) ∧ decide (v < 0) = !sgC c := by
    intro n
    induction n with
    | zero =>
      intro k hk hno
      have : k = 8 := by omega
      subst this
      refine ⟨-1, e_J1_indexOfChar_4cfef_7 _ _ _ _ _ rfl, ?_⟩
      have : sgC c = false := by
        cases h : sgC c with
        | false => rfl
        | true =>
          obtain ⟨i, h1, h2⟩ := (sg_in c hc).mp h
          exact absurd h2 (hno i h1)
      rw [this]
      rfl
    | succ n ih =>
      intro k hk hno
      have h128 := txt_128 1 (by decide) k (show k < 8 by omega)
      by_cases e : (ur_txt.getD 1 []).getD k 0 = c
      · refine ⟨nI k, e_J1_indexOfChar_4cfef_7 _ _ _ _ _ ?_, ?_⟩
        · rw [d_le (by decide) (show k < 2 ^ 31 by omega), decide_eq_false (show ¬ 8 ≤ k by omega), cond_false, u_at1 (show k < 8 by omega), Option.bind_some, e, decide_eq_false (fun z => z rfl), cond_false]
        · rw [(sg_in c hc).mpr ⟨k, by omega, e⟩, decide_eq_false (nI_pos (by omega))]
          rfl
      · obtain ⟨v, h1, h2⟩ := ih (k + 1) (by omega) (fun i hi => by
          by_cases e2 : i = k
          · rw [e2]; exact e
          · exact hno i (by omega))
        refine ⟨v, e_J1_indexOfChar_4cfef_7 _ _ _ _ _ ?_, h2⟩
        rw [d_le (by decide) (show k < 2 ^ 31 by omega), decide_eq_false (show ¬ 8 ≤ k by omega), cond_false, u_at1 (show k < 8 by omega), Option.bind_some, decide_eq_true (show nI ((ur_txt.getD 1 []).getD k 0) ≠ nI c from fun z => e ((nI_eq (by omega) (by omega)).mp z)), cond_true, nI_1]
        exact h1
  obtain ⟨v, h1, h2⟩ := key 8 0 rfl (fun i hi => absurd hi (by omega))
  refine ⟨v, ?_, h2⟩
  have c5 : ur_call ur_G (d + 3) 264 [.ref 2011, .int (nI c), .int (0 : Int32), .int (nI 8)] (s, f, g, R) = some (v, (s, f, g, R)) := by
    refine ur_cl rfl rfl (e_J1_indexOfChar_4cfef_0 _ _ _ _ _ ?_)
    rw [i8_c c hc]
    exact h1
  have c4 : ur_call ur_G (d + 4) 263 [.ref 2011, .int (nI c), .int (0 : Int32), .int (nI 8)] (s, f, g, R) = some (v, (s, f, g, R)) := by
    refine ur_cl rfl rfl (e_J1_indexOf_4cfef_0 _ _ _ _ _ ?_)
    have c6 : ur_call ur_G (d + 3) 262 [.int (nI c)] (s, f, g, R) = some (1, (s, f, g, R)) := by
      refine ur_cl rfl rfl (e_J1_canEncode_9a6ad_0 _ _ ?_)
      rw [decide_eq_false (nI_pos (show c < 2 ^ 31 by omega)), cond_false, show decide ((255 : Int32) < nI c) = false from decide_eq_false (nI_nlt (a := 255) (b := c) (by omega) (by decide)), cond_false]
    rw [c6, Option.bind_some, show decide ((1 : Int32) ≠ 0) = true from by decide, cond_true, u_ln1 hS, Option.bind_some, show ur_mx (0 : Int32) 0 = 0 from by decide, show ur_mn (nI 8) (nI 8) = nI 8 from by decide, show decide ((0 : Int32) < nI 8) = true from by decide, cond_true, c5, Option.bind_some]
  have c2 : ur_call ur_G (d + 5) 257 [.ref 2001, .int (nI c), .int (0 : Int32)] (s, f, g, R) = some (v, (s, f, g, R)) := by
    refine ur_cl rfl rfl (e_J0_indexOf_7cf53_0 _ _ _ _ ?_)
    rw [u_lat1, Option.bind_some, show decide ((1 : Int32) = 0) = false from by decide, cond_false, show ur_fR (s, f, g, R) 2001 20 0 = some 2011 from rfl, Option.bind_some, u_len1 hS, Option.bind_some, c4, Option.bind_some]
  refine ur_cl rfl rfl (e_J0_indexOf_0f7a4_0 _ _ _ ?_)
  rw [c2, Option.bind_some]
end URST

/-! THE CLASS READS A LINE, AN EVENING: the whole -/
def cEv (f : Nat → Nat → Int32) (K : Nat) (o : Nat ⊕ List uL3) (v : Int32) : Prop := match o with
  | .inl F => v = nI F
  | .inr ls => v = 0 ∧ xSc f K ls
section URLX5
variable {s : List (Nat ⊕ (Nat × Nat))} {f f' : Nat → Nat → Int32} {g g' : Nat → Nat → Int64} {R : Nat → Nat → Option Nat} {d i j k p r K L N P n : Nat} {q : Nat × (Nat → Nat)} {rn pn : Nat → List Nat} {ls : List uL3} {x : uL3}
theorem x_95 {G : Int32} {o : ur_M} {p5 s0 : Int32} {rr : ur_V} (hk : k < 5) (hG : G = nI (108 + k)) (h0 : s0 = bif decide (k < 3) then 1 else 0) (hp5 : p5 = bif decide (k = 2) || decide (k = 4) then 0 else 1) (h : (bif decide (k < 3) then ((ur_call ur_G d 66 [.ref K, .ref 1, .ref L] o).bind fun q1 => (bif decide (q1.1 = 0) then some ((0 : Int32), q1.2) else ur_at ur_G d 65 (136, [some (.ref K), some (.ref 1), some (.ref L), none, none, some (.int p5)], [], q1.2))) else ur_at ur_G d 65 (136, [some (.ref K), some (.ref 1), some (.ref L), none, none, some (.int p5)], [], o)) = some rr) : ur_at ur_G d 65 (95, [some (.ref K), some (.ref 1), some (.ref L), some (.int G), none, none], [.int s0], o) = some rr := by
  subst hG
  subst h0
  subst hp5
  refine e_X6_readLine_95 _ _ _ _ _ _ ?_
  match k, hk with
  | 0, _ => exact h
  | 1, _ => exact h
  | 2, _ => exact h
  | 3, _ => exact h
  | 4, _ => exact h
theorem x_line (hO : oTape s R 1) (hS : s.length ≤ 1000) (hL : oLand s R L) (hK : oScript s R K) (hK3 : 3 ≤ K) (hLK : 3 ≤ L ∧ L < K) (hc : cS f g q i) (h8 : N ≤ 8) (h10 : f L 10 = nI N) (hn : ∀ r, r < N → okW (rn r) ∧ g (L + 1) r = lN (wN 32 (rn r))) (h5 : P ≤ 5) (h12 : f L 12 = nI P) (hm : ∀ r, r < P → okW (pn r) ∧ g (L + 4) r = lN (wN 32 (pn r))) (h : xSc f K ls) (hn40 : ls.length ≤ 40) : ∃ v f' g', ur_call ur_G (d + 10) 65 [.ref K, .ref 1, .ref L] (s, f, g, R) = some (v, (s, f', g', R)) ∧ cL f' g' q K ls (pL1 q rn N pn P ls.length i) v ∧ eqT (TKn K ls.length) f f' ∧ eqL GF1 g g' := by
  have hkl := hc.kl
  have f1 := x_fl (d := d + 8) hO hc (k := 1) (v := 1) rfl
  have f5 := x_fl (d := d + 8) hO hc (k := 5) (v := 5) rfl
  have k108 : decide (nI (kdT q i) < (108 : Int32)) = decide (kdT q i < 108) := d_lt (b := 108) (by omega) (by decide)
  have k112 : decide (nI (kdT q i) ≤ (112 : Int32)) = decide (kdT q i ≤ 112) := d_le (b := 112) (by omega) (by decide)
  have k40 : decide (nI ls.length < (40 : Int32)) = decide (ls.length < 40) := d_lt (b := 40) (by omega) (by decide)
  unfold pL1
  by_cases e1 : kdT q i < 108 ∨ 112 < kdT q i
  · rw [if_pos e1]
    refine ⟨0, _, g, ur_cl hK.rcv rfl (e_X6_readLine_0 _ _ _ _ ?_), ⟨rfl, ur_us⟩, eqT_u (Or.inl ⟨rfl, by decide, by decide⟩), eqL.refl⟩
    by_cases a : kdT q i < 108
    · simp only [hO.I, Option.bind_some, hc.kd, k108, decide_eq_true a, cond_true, f1]
      rfl
    · simp only [hO.I, Option.bind_some, hc.kd, k108, decide_eq_false a, cond_false, k112, decide_eq_false (show ¬ kdT q i ≤ 112 by omega), f1]
      rfl
  · rw [if_neg e1]
    have a1 : decide (kdT q i < 108) = false := decide_eq_false (by omega)
    have a2 : decide (kdT q i ≤ 112) = true := decide_eq_true (by omega)
    by_cases e2 : 40 ≤ ls.length
    · rw [if_pos e2]
      refine ⟨0, _, g, ur_cl hK.rcv rfl (e_X6_readLine_0 _ _ _ _ ?_), ⟨rfl, ur_us⟩, eqT_u (Or.inl ⟨rfl, by decide, by decide⟩), eqL.refl⟩
      simp only [hO.I, hK.I, Option.bind_some, hc.kd, k108, a1, cond_false, k112, a2, cond_true, h.1, k40, decide_eq_false (show ¬ ls.length < 40 by omega), f5]
      rfl
    · rw [if_neg e2]
      have hl : ls.length < 40 := by omega
      obtain ⟨k, hk⟩ : ∃ k, kdT q i = 108 + k := ⟨kdT q i - 108, by omega⟩
      have hk5 : k < 5 := by omega
      obtain ⟨fw, hfw⟩ : ∃ fw, fw = ur_u (ur_u (ur_u f (K + 1) ls.length (nI (kdT q i))) (K + 2) ls.length (-1)) (K + 3) ls.length (-1) := ⟨_, rfl⟩
      have t1 : eqT (fun a k => K + 1 ≤ a ∧ a ≤ K + 3 ∧ k = ls.length) f fw := by
        rw [hfw]
        exact ((eqT_u (by omega)).u (by omega)).u (by omega)
      have c1 : cS fw g q i := hc.fr t1 (eqL.refl (T := fun _ _ => False)) (fun k h1 h2 z => by omega) (fun k z => by omega) (fun z => z)
      have w1 : ∀ f : Nat → Nat → Int32, ∀ v, ur_wI (s, f, g, R) (K + 1) 0 (nI ls.length) v = some (s, ur_u f (K + 1) ls.length v, g, R) := fun f v => hK.w1 hl
      have w2 : ∀ f : Nat → Nat → Int32, ∀ v, ur_wI (s, f, g, R) (K + 2) 0 (nI ls.length) v = some (s, ur_u f (K + 2) ls.length v, g, R) := fun f v => hK.w2 hl
      have w3 : ∀ f : Nat → Nat → Int32, ∀ v, ur_wI (s, f, g, R) (K + 3) 0 (nI ls.length) v = some (s, ur_u f (K + 3) ls.length v, g, R) := fun f v => hK.w3 hl
      obtain ⟨f2, g2, v1, v2, v3, v4⟩ := x_adv (d := d + 1) hO hS c1
      have t2 : eqT (TKn K ls.length) f f2 := (t1.mono (fun a k z => by unfold TKn; omega)).trans (v3.mono TF1_Kn)
      have n3 : f (K) 3 = nI ls.length := h.1
      have u3 : ∀ a v, (ur_u f (K + 1) a v) K 3 = nI ls.length := fun a v => by rw [ur_ua (by omega)]; exact n3
      have u4 : ∀ a v a' v', (ur_u (ur_u f (K + 1) a v) (K + 2) a' v') K 3 = nI ls.length := fun a v a' v' => by rw [ur_ua (by omega), ur_ua (by omega)]; exact n3
      have r1 : f2 (K + 1) ls.length = nI (108 + k) := by
        rw [v3 _ _ (by unfold TF1; omega), hfw, ur_ua (by omega), ur_ua (by omega), ur_us, hk]
      have n32 : f2 K 3 = nI ls.length := by rw [v3 _ _ (by unfold TF1; omega), t1 _ _ (by omega)]; exact n3
      have x2 : xSc f2 K ls := ⟨n32, fun i hi => by
        rw [t2 (K + 1) i (by unfold TKn; omega), t2 (K + 2) i (by unfold TKn; omega), t2 (K + 3) i (by unfold TKn; omega)]
        exact h.2 i hi⟩
      have h102 : f2 L 10 = nI N := by rw [t2 _ _ (by unfold TKn; omega)]; exact h10
      have h122 : f2 L 12 = nI P := by rw [t2 _ _ (by unfold TKn; omega)]; exact h12
      have hn2 : ∀ r, r < N → okW (rn r) ∧ g2 (L + 1) r = lN (wN 32 (rn r)) := fun r hr => ⟨(hn r hr).1, by rw [v4 _ _ (by unfold GF1; omega)]; exact (hn r hr).2⟩
      have hm2 : ∀ r, r < P → okW (pn r) ∧ g2 (L + 4) r = lN (wN 32 (pn r)) := fun r hr => ⟨(hm r hr).1, by rw [v4 _ _ (by unfold GF1; omega)]; exact (hm r hr).2⟩
      have ek : kdT q i - 108 = k := by omega
      rw [ek]
      have go : ∀ rr, (∀ s0, (s0 = bif decide (k < 3) then (1 : Int32) else 0) → ur_at ur_G (d + 9) 65 (95, [some (.ref K), some (.ref 1), some (.ref L), some (.int (nI (kdT q i))), none, none], [.int s0], (s, f2, g2, R)) = some rr) → ur_call ur_G (d + 10) 65 [.ref K, .ref 1, .ref L] (s, f, g, R) = some rr := fun rr hr => by
        refine ur_cl hK.rcv rfl (e_X6_readLine_0 _ _ _ _ ?_)
        simp only [hO.I, hK.I, Option.bind_some, hc.kd, k108, a1, cond_false, k112, a2, cond_true, n3, k40, decide_eq_true hl, hK.r0, w1, hK.r1, u3, w2, hK.r2, u4, w3, ← hfw, v1]
        rw [hk] at hr ⊢
        match k, hk5, hr with
        | 0, _, hr => exact hr _ rfl
        | 1, _, hr => exact hr _ rfl
        | 2, _, hr => exact hr _ rfl
        | 3, _, hr => exact hr _ rfl
        | 4, _, hr => exact hr _ rfl
      by_cases e3 : 111 ≤ kdT q i
      · rw [if_pos e3]
        have k3 : decide (k < 3) = false := decide_eq_false (by omega)
        obtain ⟨v, f3, g3, b1, b2, b3, b4⟩ := x_L2 (d := d) (k := k) (p := 0) hO hS hL hK hK3 hLK v2 h8 h102 hn2 x2 hl hk5 r1 (fun y => absurd y (by omega)) rfl
        refine ⟨v, f3, g3, go _ (fun s0 h0 => x_95 hk5 (congrArg nI hk) h0 rfl ?_), b2, t2.trans b3, v4.trans b4⟩
        rw [k3, cond_false]
        exact b1
      · rw [if_neg e3]
        have k3 : decide (k < 3) = true := decide_eq_true (by omega)
        obtain ⟨z1, z2⟩ := x_scP (d := d) hO hS hL hK hK3 v2 h5 h122 hm2 n32 hl
        by_cases e4 : pNm q pn P (enT q i) = 0
        · rw [if_neg (fun y => y e4)]
          obtain ⟨f3, g3, m, y1, y2, y3, y4, y5, y6, y7⟩ := z2 e4
          rw [y4]
          have t3 : eqT (TKn K ls.length) f2 f3 := y6.mono (fun a k z => by unfold TF1 at z; unfold TKn; omega)
          have x3 : xSc f3 K ls := ⟨by rw [y6 _ _ (by unfold TF1; omega)]; exact n32, fun i hi => by
            rw [t3 (K + 1) i (by unfold TKn; omega), t3 (K + 2) i (by unfold TKn; omega), t3 (K + 3) i (by unfold TKn; omega)]
            exact x2.2 i hi⟩
          have h103 : f3 L 10 = nI N := by rw [t3 _ _ (by unfold TKn; omega)]; exact h102
          have hn3 : ∀ r, r < N → okW (rn r) ∧ g3 (L + 1) r = lN (wN 32 (rn r)) := fun r hr => ⟨(hn r hr).1, by rw [y7 _ _ (by unfold GF1; omega)]; exact (hn2 r hr).2⟩
          obtain ⟨v, f4, g4, b1, b2, b3, b4⟩ := x_L2 (d := d) (k := k) (p := m) hO hS hL hK hK3 hLK y2 h8 h103 hn3 x3 hl hk5 (by rw [y6 _ _ (by unfold TF1; omega)]; exact r1) (fun _ => y5) rfl
          refine ⟨v, f4, g4, go _ (fun s0 h0 => x_95 hk5 (congrArg nI hk) h0 rfl ?_), b2, (t2.trans t3).trans b3, (v4.trans y7).trans b4⟩
          rw [k3, cond_true, y1]
          simp only [Option.bind_some, e10, cond_false]
          exact b1
        · rw [if_pos e4]
          refine ⟨0, _, g2, go _ (fun s0 h0 => x_95 hk5 (congrArg nI hk) h0 rfl ?_), ⟨rfl, ur_us⟩, t2.u (Or.inl ⟨rfl, by decide, by decide⟩), v4⟩
          rw [k3, cond_true, z1 e4]
          simp only [Option.bind_some, e00, decide_true, cond_true]
theorem x_ev (hO : oTape s R 1) (hS : s.length ≤ 1000) (hL : oLand s R L) (hK : oScript s R K) (hK3 : 3 ≤ K) (hLK : 3 ≤ L ∧ L < K) (h8 : N ≤ 8) (h5 : P ≤ 5) : ∀ (n i k : Nat) (ls : List uL3) (f : Nat → Nat → Int32) (g : Nat → Nat → Int64), q.1 - i < n → k ≤ i → cS f g q i → f L 10 = nI N → (∀ r, r < N → okW (rn r) ∧ g (L + 1) r = lN (wN 32 (rn r))) → f L 12 = nI P → (∀ r, r < P → okW (pn r) ∧ g (L + 4) r = lN (wN 32 (pn r))) → xSc f K ls → ls.length ≤ 40 → ∃ v f' g', ur_at ur_G (d + 10) 64 (11, [some (.ref K), some (.ref 1), some (.ref L), some (.int (nI k))], [], (s, f, g, R)) = some (v, (s, f', g', R)) ∧ cEv f' K (pEv q rn N pn P n i ls) v ∧ eqT (TKa K) f f' ∧ eqL GF1 g g'
  | 0, _, _, _, _, _, hn, _, _, _, _, _, _, _, _ => absurd hn (Nat.not_lt_zero _)
  | n + 1, i, k, ls, f, g, hn, hk, hc, h10, hrn, h12, hpn, h, h40 => by
    have hle := hc.1.le
    have hi := hc.le
    have hkl := hc.kl
    show ∃ v f' g', _ ∧ cEv f' K (if kdT q i = 1 then .inr ls else evB (pL1 q rn N pn P ls.length i) (fun x => pEv q rn N pn P n x.1 (ls ++ [x.2]))) v ∧ _
    by_cases h1 : kdT q i = 1
    · rw [if_pos h1]
      refine ⟨0, f, g, e_X6_readFrom_11 _ _ _ _ _ ?_, ⟨rfl, h⟩, eqT.refl, eqL.refl⟩
      simp only [hO.I, Option.bind_some, hc.f7, hc.kd, h1, show decide (nI 1 = (1 : Int32)) = true from by decide, cond_true]
      cases decide ((1000 : Int32) ≤ nI k) <;> rfl
    · rw [if_neg h1]
      have hlt : i < q.1 := by
        have a := (tk_next hi).2.1 h1
        have b := (tk_next hi).1
        omega
      have kk : decide ((1000 : Int32) ≤ nI k) = false := (d_le (a := 1000) (by decide) (by omega)).trans (decide_eq_false (by omega))
      have k1 : decide (nI (kdT q i) = (1 : Int32)) = false := (d_eq (b := 1) (by omega) (by decide)).trans (decide_eq_false h1)
      obtain ⟨v, f2, g2, b1, b2, b3, b4⟩ := x_line (d := d) (rn := rn) (pn := pn) hO hS hL hK hK3 hLK hc h8 h10 hrn h5 h12 hpn h h40
      have ok := (pL1_ok (q := q) (rn := rn) (pn := pn) (n := ls.length) h8 h5 hi).1
      have nk : nI k + (1 : Int32) = nI (k + 1) := nI_1 k
      revert b2 ok
      cases pL1 q rn N pn P ls.length i with
      | inl F =>
        intro b2 _
        have b2' : v = 0 ∧ f2 1 7 = nI F := b2
        refine ⟨nI F, f2, g2, e_X6_readFrom_11 _ _ _ _ _ ?_, rfl, b3.mono TKn_Ka, b4⟩
        simp only [kk, cond_false, hO.I, Option.bind_some, hc.kd, k1, b1, b2'.1, b2'.2, show decide ((0 : Int32) ≠ 0) = false from by decide]
      | inr x =>
        intro b2 ok
        have b2' : v = 1 ∧ cS f2 g2 q x.1 ∧ xSc f2 K (ls ++ [x.2]) := b2
        obtain ⟨o1, o2, o3, o4⟩ := ok x rfl
        have ll : (ls ++ [x.2]).length = ls.length + 1 := by simp
        obtain ⟨w, f3, g3, d1, d2, d3, d4⟩ := x_ev hO hS hL hK hK3 hLK h8 h5 n x.1 (k + 1) (ls ++ [x.2]) f2 g2 (by omega) (by omega) b2'.2.1 (by rw [b3 _ _ (by unfold TKn; omega)]; exact h10) (fun r hr => ⟨(hrn r hr).1, by rw [b4 _ _ (by unfold GF1; omega)]; exact (hrn r hr).2⟩) (by rw [b3 _ _ (by unfold TKn; omega)]; exact h12) (fun r hr => ⟨(hpn r hr).1, by rw [b4 _ _ (by unfold GF1; omega)]; exact (hpn r hr).2⟩) b2'.2.2 (by omega)
        refine ⟨w, f3, g3, e_X6_readFrom_11 _ _ _ _ _ ?_, d2, (b3.mono TKn_Ka).trans d3, b4.trans d4⟩
        simp only [kk, cond_false, hO.I, Option.bind_some, hc.kd, k1, b1, b2'.1, show decide ((1 : Int32) ≠ 0) = true from by decide, cond_true, nk]
        exact d1
theorem x_even (hO : oTape s R 1) (hS : s.length ≤ 1000) (hL : oLand s R L) (hK : oScript s R K) (hK3 : 3 ≤ K) (hLK : 3 ≤ L ∧ L < K) (h8 : N ≤ 8) (h5 : P ≤ 5) (ht : tpX f q) (h10 : f L 10 = nI N) (hrn : ∀ r, r < N → okW (rn r) ∧ g (L + 1) r = lN (wN 32 (rn r))) (h12 : f L 12 = nI P) (hpn : ∀ r, r < P → okW (pn r) ∧ g (L + 4) r = lN (wN 32 (pn r))) : ∃ v f' g', ur_call ur_G (d + 11) 64 [.ref K, .ref 1, .ref L] (s, f, g, R) = some (v, (s, f', g', R)) ∧ cEv f' K (pEv q rn N pn P (q.1 + 1) 0 []) v ∧ eqT (TKa K) f f' ∧ eqL GF1 g g' := by
  obtain ⟨f1, hf1⟩ : ∃ f1, f1 = ur_u f K 3 0 := ⟨_, rfl⟩
  have a3 : eqT (fun a k => a = K ∧ k = 3) f f1 := by rw [hf1]; exact eqT_u ⟨rfl, rfl⟩
  have ht1 : tpX f1 q := ht.fr a3 ⟨by omega, fun k y => by omega⟩
  obtain ⟨f2, hf2⟩ : ∃ f2, f2 = ur_u (ur_u f1 1 2 0) 1 7 0 := ⟨_, rfl⟩
  have t2 : eqT (fun a k => a = 1 ∧ (k = 2 ∨ k = 7)) f1 f2 := by
    rw [hf2]
    exact (eqT_u (by omega)).u (by omega)
  have ht2 : tpX f2 q := ht1.fr t2 ⟨by omega, fun k y => by omega⟩
  have e2 : f2 1 2 = nI 0 := by rw [hf2, ur_un (by decide)]; exact ur_us
  obtain ⟨f3, w, c1, c2, c3⟩ := x_advance (d := d + 1) (g := g) hO hS ht2 (Nat.zero_le q.1) e2
  have hc : cS f3 (ur_u g 1 5 w) q 0 := ⟨ht2.fr c3 TAx_d, ⟨Nat.zero_le _, by rw [c3 _ _ (by unfold TAx; omega), hf2]; exact ur_us⟩, c2⟩
  have t3 : eqT TF1 f1 f3 := (t2.mono (fun a k y => by unfold TF1; omega)).trans (c3.mono (fun a k y => by unfold TAx at y; unfold TF1; omega))
  have tg : eqL GF1 g (ur_u g 1 5 w) := eqL_u ⟨rfl, rfl⟩
  have x3 : xSc f3 K [] := ⟨by rw [t3 _ _ (by unfold TF1; omega), hf1]; exact ur_us, fun i hi => absurd hi (Nat.not_lt_zero i)⟩
  obtain ⟨v, f4, g4, b1, b2, b3, b4⟩ := x_ev (d := d) (q := q) (rn := rn) (pn := pn) hO hS hL hK hK3 hLK h8 h5 (q.1 + 1) 0 0 [] f3 (ur_u g 1 5 w) (by omega) (Nat.le_refl 0) hc (by rw [t3 _ _ (by unfold TF1; omega), a3 _ _ (by omega)]; exact h10) (fun r hr => ⟨(hrn r hr).1, by rw [tg _ _ (by unfold GF1; omega)]; exact (hrn r hr).2⟩) (by rw [t3 _ _ (by unfold TF1; omega), a3 _ _ (by omega)]; exact h12) (fun r hr => ⟨(hpn r hr).1, by rw [tg _ _ (by unfold GF1; omega)]; exact (hpn r hr).2⟩) x3 (Nat.zero_le _)
  refine ⟨v, f4, g4, ur_cl hK.rcv rfl (e_X6_readFrom_0 _ _ _ _ ?_), b2, ((a3.mono (fun a k y => by unfold TKa; omega)).trans (t3.mono (fun a k y => by unfold TF1 at y; unfold TKa; omega))).trans b3, tg.trans b4⟩
  have cb : ur_call ur_G (d + 10) 73 [.ref 1] (s, f1, g, R) = some (0, (s, f3, ur_u g 1 5 w, R)) := by
    refine ur_cl hO.rcv rfl (e_X8_begin_0 _ _ ?_)
    simp only [hO.pI, Option.bind_some, ← hf2, c1]
  simp only [hK.pI, ← hf1, Option.bind_some, cb]
  exact b1
end URLX5

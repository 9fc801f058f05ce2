/-! THE LAW'S CASE OF RESTS, AND ITS LOOP -/
section URLP
variable {p : Program} {l : Launch} {e : Env} {s : State} {mid : MethodId} {below : List Frame} {meth : Method} {c : Code} {D : va_G} {cas : Nat → ClassId} {ad : Nat → Value} {Q : State → Prop} {Cn Sn : Nat} {b L : Nat} {xs : Nat → Int32} {i : Int32} {x5 x6 : Option Value} {sh : List (Nat ⊕ (Nat × Nat))} {f f' : Nat → Nat → Int32} {g g' : Nat → Nat → Int64} {R : Nat → Nat → Option Nat}
theorem lr_inv (h : INV sh R f g) (t : eqT (fun a k => a = 208 ∧ k = 0) f f') (tg : ∀ a, a ≠ 251 → g' a = g a) : INV sh R f' g' := by
  obtain ⟨L1, L2, K1, K2, l1, V1, N1, P1, E1, hJ⟩ := h
  have hJ2 : JV sh R f' g L1 L2 K1 K2 l1 V1 N1 P1 E1 := hJ.q (t.mono (fun a k z => by unfold QX SR; omega))
  have hL := hJ.oX.eL
  refine ⟨L1, L2, K1, K2, l1, V1, N1, P1, E1, hJ2.1, ⟨fun r hr => ?_, fun r hr => ?_⟩, hJ2.2.2⟩
  · rw [tg _ (by omega), tg _ (by omega)]; exact hJ2.2.1.1 r hr
  · rw [tg _ (by omega), tg _ (by omega)]; exact hJ2.2.1.2 r hr
theorem lcase_36 (hC : lwC p l s mid b c D cas ad L xs) (hin : ∀ k : Nat, k < 7 → vp_in (i + nI k) L) (hS : sh.length ≤ 1000) (ho : sh[251]? = some (.inr (1, 1))) (hcap : Cn + 1 ≤ room_1.cells ∧ Sn + 6 ≤ room_1.slots) (hI : INV sh R f g) (K : ∀ f2 g2 R2, INV sh R2 f2 g2 → ∀ x5 x6, lwJ p l e s mid b below meth c D cas ad (Cn + 1) (Sn + 6) Q 1485 (lwL i x5 x6) [] (sh, f2, g2, R2)) : lwJ p l e s mid b below meth c D cas ad Cn Sn Q 1266 (lwL i x5 x6) [] (sh, f, g, R) := by
  obtain ⟨L1, L2, K1, K2, l1, V1, N1, P1, E1, hJ⟩ := id hI
  have hX : ur_isO (sh, f, g, R) 0 9 = true := hJ.oX.rcv
  have hM := hJ.oX.M
  refine lj_aload_n hC.1 dL_law_1266 rfl ?_
  refine lw_arg (kv := 1) hC dL_law_1267 dL_law_1268 dL_law_1270 rfl dL_law_1271 dL_law_1272 rfl rfl (hin 1 (by decide)) ?_
  refine lw_arg (kv := 2) hC dL_law_1273 dL_law_1274 dL_law_1276 rfl dL_law_1277 dL_law_1278 rfl rfl (hin 2 (by decide)) ?_
  refine lw_arg (kv := 3) hC dL_law_1279 dL_law_1280 dL_law_1282 rfl dL_law_1283 dL_law_1284 rfl rfl (hin 3 (by decide)) ?_
  refine lw_arg (kv := 4) hC dL_law_1285 dL_law_1286 dL_law_1288 rfl dL_law_1289 dL_law_1290 rfl rfl (hin 4 (by decide)) ?_
  refine lj_aload_n hC.1 dL_law_1291 rfl ?_
  refine lj_rests (r := []) hC.1 hC.2.2.2.2.2 hC.2.2.2.2.1 hS hX ho (by decide) (by decide) hcap.1 hcap.2 (by decide) dL_law_1292 ?_
  obtain ⟨o, ho'⟩ : ∃ o, o = rsR (xs (i + 1).toNatClampNeg) (xs (i + 2).toNatClampNeg) (xs (i + 3).toNatClampNeg) (xs (i + 4).toNatClampNeg) := ⟨_, rfl⟩
  rw [← ho']
  obtain ⟨g1, hg1, hg2, hg3⟩ : ∃ g1, lr_M (sh, f, g, R) o = (sh, f, g1, R) ∧ (∀ a, a ≠ 251 → g1 a = g a) ∧ ∀ v, o = some v → g1 251 0 = v.toInt64 := by
    cases o with
    | none => exact ⟨g, rfl, fun _ _ => rfl, fun v h => by cases h⟩
    | some v => exact ⟨ur_u g 251 0 v.toInt64, rfl, fun a ha => ur_uag ha, fun v' h => by cases h; exact ur_usg⟩
  rw [hg1]
  refine lj_istore hC.1 dL_law_1295 (show 5 < 7 by decide) ?_
  refine lj_aload_n hC.1 dL_law_1297 rfl ?_
  refine lw_arg (kv := 1) hC dL_law_1298 dL_law_1299 dL_law_1301 rfl dL_law_1302 dL_law_1303 rfl rfl (hin 1 (by decide)) ?_
  refine lw_arg (kv := 2) hC dL_law_1304 dL_law_1305 dL_law_1307 rfl dL_law_1308 dL_law_1309 rfl rfl (hin 2 (by decide)) ?_
  refine lw_arg (kv := 3) hC dL_law_1310 dL_law_1311 dL_law_1313 rfl dL_law_1314 dL_law_1315 rfl rfl (hin 3 (by decide)) ?_
  refine lw_arg (kv := 4) hC dL_law_1316 dL_law_1317 dL_law_1319 rfl dL_law_1320 dL_law_1321 rfl rfl (hin 4 (by decide)) ?_
  obtain ⟨v', f1, c1, c2, c3, c4⟩ := m_rests (d := 56) (f := f) (g := g1) (a := xs (i + 1).toNatClampNeg) (b := xs (i + 2).toNatClampNeg) (c := xs (i + 3).toNatClampNeg) (w := xs (i + 4).toNatClampNeg) hM
  rw [← ho'] at c3 c4
  refine lj_virt (d := 59) (a := 208) (As := [.int (xs (i + 1).toNatClampNeg), .int (xs (i + 2).toNatClampNeg), .int (xs (i + 3).toNatClampNeg), .int (xs (i + 4).toNatClampNeg)]) (r := []) (v := (v', (sh, f1, g1, R))) hC.1 lk_0_178 rfl (by decide) c1 rfl hS rfl (by decide) (by decide) hcap.1 hcap.2 (by decide) dL_law_1322 ?_
  refine lj_istore hC.1 dL_law_1325 (show 6 < 7 by decide) ?_
  refine lj_aload_n hC.1 dL_law_1327 rfl ?_
  refine lj_virt (d := 59) (a := 208) (As := []) (r := []) (v := (f1 208 0, (sh, f1, g1, R))) hC.1 lk_0_179 rfl (by decide) (m_thrown (d := 59) hM) rfl hS rfl (by decide) (by decide) hcap.1 hcap.2 (by decide) dL_law_1328 ?_
  have hI2 : INV sh R f1 g1 := lr_inv hI c2 hg2
  have fin : lwJ p l e s mid b below meth c D cas ad (Cn + 1) (Sn + 6) Q 1355 (lwL i (some (.int (rsT o))) (some (.int v'))) [] (sh, f1, g1, R) := lj_goto hC.1 dL_law_1355 (x := 1485) rfl (K f1 g1 R hI2 _ _)
  refine lj_iload (w := rsT o) hC.1 dL_law_1331 rfl (lj_icmp_eq hC.1 dL_law_1333 (x := 1338) rfl (fun _ => ?_) (fun y => absurd c3 y))
  refine lj_iload (w := rsT o) hC.1 dL_law_1338 rfl (lj_ifne hC.1 dL_law_1340 (x := 1355) rfl (fun _ => fin) (fun y => ?_))
  obtain ⟨v, hv⟩ : ∃ v, o = some v := by
    cases o with
    | none => exact absurd (show (1 : Int32) = 0 from y) (by decide)
    | some v => exact ⟨v, rfl⟩
  refine lj_aload_n hC.1 dL_law_1343 rfl (lj_iconst (v := 0) hC.1 dL_law_1344 rfl (lj_laload (N := 1) hC.1 ho hS (by decide) dL_law_1345 ?_))
  refine lj_iload (w := v') hC.1 dL_law_1346 rfl (lj_i2l hC.1 dL_law_1348 (lj_lcmp hC.1 dL_law_1349 (lj_ifeq hC.1 dL_law_1350 (x := 1355) rfl (fun _ => fin) (fun y2 => absurd ?_ y2))))
  have e1 : g1 251 (0 : Int32).toNatClampNeg = v'.toInt64 := by rw [c4 v hv]; exact hg3 v hv
  have := lg_z (g1 251 (0 : Int32).toNatClampNeg) v'.toInt64
  rw [decide_eq_true e1] at this
  exact of_decide_eq_true this
theorem lw_gt {L i : Nat} (hL : L < i + 7) (hi : i < 2 ^ 20 := by omega) : Int32.ofNat L - (7 : Int32) < nI i := by
  by_cases h : 7 ≤ L
  · have e : Int32.ofNat L - (7 : Int32) = nI (L - 7) := pk_sub (a := L) (b := 7) h
    rw [e]
    exact of_decide_eq_true ((d_lt (by omega) (by omega)).trans (decide_eq_true (by omega)))
  · have h1 : ∀ L, L < 7 → Int32.ofNat L - (7 : Int32) < 0 := by decide
    exact Int32.lt_of_lt_of_le (h1 L (by omega)) (of_decide_eq_true (ge0 (show i < 2 ^ 31 by omega)))
def lw_sw : List (Int32 × Nat) := [(0, 216), (1, 363), (2, 376), (3, 389), (4, 426), (5, 463), (6, 500), (7, 537), (8, 562), (9, 587), (10, 600), (11, 613), (12, 638), (13, 663), (14, 688), (15, 725), (16, 750), (17, 763), (18, 788), (19, 813), (20, 850), (21, 875), (22, 912), (23, 925), (24, 938), (25, 963), (26, 1000), (27, 1037), (28, 1050), (29, 1063), (30, 1088), (31, 1101), (32, 1114), (33, 1179), (34, 1192), (35, 1205), (36, 1266), (37, 1358), (38, 1407), (39, 1460)]
theorem lw_loop (hC : lwC p l s mid b c D cas ad L xs) (hr : meth.sig.returnType = ret) (hlocks : meth.locks = false) (hL : L ≤ 3584) (hS : sh.length ≤ 1000) (ho : sh[251]? = some (.inr (1, 1))) : ∀ (n j : Nat) (f : Nat → Nat → Int32) (g : Nat → Nat → Int64) (R : Nat → Nat → Option Nat) (x5 x6 : Option Value), n + j = 513 → INV sh R f g → lwJ p l e s mid b below meth c D cas ad (252 + j) (10000 + 6 * j) (lw_Z below #[.ref b] s) 23 (lwL (nI (7 * j)) x5 x6) [] (sh, f, g, R) := by
  have out : ∀ (j : Nat) (f : Nat → Nat → Int32) (g : Nat → Nat → Int64) (R : Nat → Nat → Option Nat) (x5 x6 : Option Value), j ≤ 513 → lwJ p l e s mid b below meth c D cas ad (252 + j) (10000 + 6 * j) (lw_Z below #[.ref b] s) 1491 (lwL (nI (7 * j)) x5 x6) [] (sh, f, g, R) := by
    intro j f g R x5 x6 hj
    refine lj_iconst (v := 1) hC.1 dL_law_1491 rfl ?_
    intro lsr H locs cells slots hl h0 hP hD hS q2 q3
    exact va_forget hS.2.2 (W.widen (k := 601024) (n := 7293033) (Nat.le_trans q2 (by omega)) (Nat.le_trans q3 (by omega)) (lw_ret hC.1.1 hC.1.2.1 hr hlocks dL_law_1492))
  intro n
  induction n with
  | zero =>
    intro j f g R x5 x6 hj hI
    have : j = 513 := by omega
    subst this
    refine lj_iload (w := nI (7 * 513)) hC.1 dL_law_23 rfl (lj_aload_n hC.1 dL_law_25 rfl (lj_slen hC.1 hC.2.1 hC.2.2.1 (Nat.not_le.mpr hC.2.2.1) hC.2.2.2.1 dL_law_26 (lj_bipush (v := 7) hC.1 dL_law_27 rfl (lj_isub hC.1 dL_law_29 (lj_icmp_gt hC.1 dL_law_30 (x := 1491) rfl (fun _ => out 513 f g R x5 x6 (Nat.le_refl _)) (fun y => absurd ?_ y))))))
    exact lw_gt (by omega)
  | succ n ih =>
    intro j f g R x5 x6 hj hI
    refine lj_iload (w := nI (7 * j)) hC.1 dL_law_23 rfl (lj_aload_n hC.1 dL_law_25 rfl (lj_slen hC.1 hC.2.1 hC.2.2.1 (Nat.not_le.mpr hC.2.2.1) hC.2.2.2.1 dL_law_26 (lj_bipush (v := 7) hC.1 dL_law_27 rfl (lj_isub hC.1 dL_law_29 (lj_icmp_gt hC.1 dL_law_30 (x := 1491) rfl (fun _ => out j f g R x5 x6 (by omega)) (fun y => ?_))))))
    have hle : 7 * j + 7 ≤ L := by
      by_cases h : 7 * j + 7 ≤ L
      · exact h
      · exact absurd (lw_gt (by omega)) y
    have hin : ∀ k : Nat, k < 7 → vp_in (nI (7 * j) + nI k) L := fun k hk => by
      rw [nI_add]
      exact nI_in (by omega) (by omega)
    have hin0 : vp_in (nI (7 * j)) L := nI_in (by omega) (by omega)
    have K : ∀ f2 g2 R2, INV sh R2 f2 g2 → ∀ x5 x6, lwJ p l e s mid b below meth c D cas ad (252 + j + 1) (10000 + 6 * j + 6) (lw_Z below #[.ref b] s) 1485 (lwL (nI (7 * j)) x5 x6) [] (sh, f2, g2, R2) := fun f2 g2 R2 hI2 x5 x6 => by
      refine lj_iinc (v := 7) hC.1 dL_law_1485 rfl rfl (show 4 < 7 by decide) (lj_goto hC.1 dL_law_1488 (x := 23) rfl ?_)
      have e7 : nI (7 * j) + (7 : Int32) = nI (7 * (j + 1)) := (nI_add (7 * j) 7).trans (congrArg nI (by omega))
      rw [e7]
      exact ih (j + 1) f2 g2 R2 x5 x6 (by omega) hI2
    have hcap : 252 + j + 1 ≤ room_1.cells ∧ 10000 + 6 * j + 6 ≤ room_1.slots := ⟨by show _ ≤ 601024; omega, by show _ ≤ 7293033; omega⟩
    refine lj_aload_n hC.1 dL_law_33 rfl (lj_iload (w := nI (7 * j)) hC.1 dL_law_34 rfl (lj_sld hC.1 hC.2.1 hC.2.2.1 (Nat.not_le.mpr hC.2.2.1) hC.2.2.2.1 hin0 dL_law_36 (lj_bipush (v := 63) hC.1 dL_law_37 rfl (lj_iand hC.1 dL_law_39 (lj_table (sw := lw_sw) (d := 1485) hC.1 dL_law_40 (by decide +kernel) rfl rfl (lj_sel _ _ _ (fun q hq => ?_) ?_))))))
    · simp only [lw_sw, List.mem_cons, List.not_mem_nil, or_false] at hq
      rcases hq with rfl | rfl | rfl | rfl | rfl | rfl | rfl | rfl | rfl | rfl | rfl | rfl | rfl | rfl | rfl | rfl | rfl | rfl | rfl | rfl | rfl | rfl | rfl | rfl | rfl | rfl | rfl | rfl | rfl | rfl | rfl | rfl | rfl | rfl | rfl | rfl | rfl | rfl | rfl | rfl
      · exact lj_mono (by omega) (by omega) (lcase_0 hC hin hS hcap hI K)
      · exact lj_mono (by omega) (by omega) (lcase_1 hC hin hS hcap hI K)
      · exact lj_mono (by omega) (by omega) (lcase_2 hC hin hS hcap hI K)
      · exact lj_mono (by omega) (by omega) (lcase_3 hC hin hS hcap hI K)
      · exact lj_mono (by omega) (by omega) (lcase_4 hC hin hS hcap hI K)
      · exact lj_mono (by omega) (by omega) (lcase_5 hC hin hS hcap hI K)
      · exact lj_mono (by omega) (by omega) (lcase_6 hC hin hS hcap hI K)
      · exact lj_mono (by omega) (by omega) (lcase_7 hC hin hS hcap hI K)
      · exact lj_mono (by omega) (by omega) (lcase_8 hC hin hS hcap hI K)
      · exact lj_mono (by omega) (by omega) (lcase_9 hC hin hS hcap hI K)
      · exact lj_mono (by omega) (by omega) (lcase_10 hC hin hS hcap hI K)
      · exact lj_mono (by omega) (by omega) (lcase_11 hC hin hS hcap hI K)
      · exact lj_mono (by omega) (by omega) (lcase_12 hC hin hS hcap hI K)
      · exact lj_mono (by omega) (by omega) (lcase_13 hC hin hS hcap hI K)
      · exact lj_mono (by omega) (by omega) (lcase_14 hC hin hS hcap hI K)
      · exact lj_mono (by omega) (by omega) (lcase_15 hC hin hS hcap hI K)
      · exact lj_mono (by omega) (by omega) (lcase_16 hC hin hS hcap hI K)
      · exact lj_mono (by omega) (by omega) (lcase_17 hC hin hS hcap hI K)
      · exact lj_mono (by omega) (by omega) (lcase_18 hC hin hS hcap hI K)
      · exact lj_mono (by omega) (by omega) (lcase_19 hC hin hS hcap hI K)
      · exact lj_mono (by omega) (by omega) (lcase_20 hC hin hS hcap hI K)
      · exact lj_mono (by omega) (by omega) (lcase_21 hC hin hS hcap hI K)
      · exact lj_mono (by omega) (by omega) (lcase_22 hC hin hS hcap hI K)
      · exact lj_mono (by omega) (by omega) (lcase_23 hC hin hS hcap hI K)
      · exact lj_mono (by omega) (by omega) (lcase_24 hC hin hS hcap hI K)
      · exact lj_mono (by omega) (by omega) (lcase_25 hC hin hS hcap hI K)
      · exact lj_mono (by omega) (by omega) (lcase_26 hC hin hS hcap hI K)
      · exact lj_mono (by omega) (by omega) (lcase_27 hC hin hS hcap hI K)
      · exact lj_mono (by omega) (by omega) (lcase_28 hC hin hS hcap hI K)
      · exact lj_mono (by omega) (by omega) (lcase_29 hC hin hS hcap hI K)
      · exact lj_mono (by omega) (by omega) (lcase_30 hC hin hS hcap hI K)
      · exact lj_mono (by omega) (by omega) (lcase_31 hC hin hS hcap hI K)
      · exact lj_mono (by omega) (by omega) (lcase_32 hC hin hS hcap hI K)
      · exact lj_mono (by omega) (by omega) (lcase_33 hC hin hS hcap hI K)
      · exact lj_mono (by omega) (by omega) (lcase_34 hC hin hS hcap hI K)
      · exact lj_mono (by omega) (by omega) (lcase_35 hC hin hS hcap hI K)
      · exact lcase_36 hC hin hS ho hcap hI K
      · exact lj_mono (by omega) (by omega) (lcase_37 hC hin hS hcap hI K)
      · exact lj_mono (by omega) (by omega) (lcase_38 hC hin hS hcap hI K)
      · exact lj_mono (by omega) (by omega) (lcase_39 hC hin hS hcap hI K)
    · exact lj_mono (by omega) (by omega) (K f g R hI x5 x6)
end URLP

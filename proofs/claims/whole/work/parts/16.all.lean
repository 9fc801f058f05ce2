/-! THE WHOLE: by fuel -/
set_option maxHeartbeats 4000000 in
theorem ur_sound {l : Launch} {G : Nat → ur_P} {N : Nat → ur_NI} {D : va_G} {cas : Nat → ClassId} {b0 : Nat} {ad : Nat → Value} (had : ur_ado ad) (hcl : ur_clsOk) (hE : ∀ (k pc : Nat) (i : Instr) (n x : Nat) (v : Int32), ur_lk (G k).1 pc = some (i, n, x, v) → decode (N k).2.1 pc = .ok (i, n) ∧ ur_okE G N (N k).1.cls (decide ((N k).1.name = "<init>")) (N k).2.2 ((G k).2.1 pc) pc i n x v) : ∀ n, ur_IH l G N D cas b0 ad n := by
  intro n
  induction n with
  | zero => intro d k S res h; simp [ur_ex] at h
  | succ n ih =>
    intro d k S res hex hM p e R s mid args below meth c A L0 S0 hcx hZ hR
    have hs : ∀ s', ur_ex G n d k s' = some res → ur_Wg p l e R s mid args below meth c D cas b0 ad A (G k).2.2.1 L0 S0 (MQ below (ur_Qc D cas b0 A (N k).2.2 res) args s (res.2.1.length - L0) (ur_sl res.2.1 - S0) A) s' := fun s' h => ih d k s' res h hM p e R s mid args below meth c A L0 S0 hcx hZ hR
    have hgrow : ∀ s', ur_ex G n d k s' = some res → s'.2.2.2.1.length ≤ res.2.1.length ∧ ur_sl s'.2.2.2.1 ≤ ur_sl res.2.1 := fun s' h => ur_grow G n d k s' res h
    obtain ⟨hx, hb, hml, hown, hts, hret, hlocks, hname, hK, hO, hA, hAb, hb0, hR1, hR2⟩ := id hcx
    have hRl : 1 ≤ R.frames ∧ 64 ≤ R.locals := ⟨by omega, by omega⟩
    rw [ur_ex_s] at hex
    obtain ⟨pc, ls, st, m⟩ := S
    unfold ur_stp at hex
    split at hex
    next i n' x v hlk =>
      obtain ⟨hdg, hok⟩ := hE k pc i n' x v hlk
      dsimp only at hex
      cases i with
      | iconst z => obtain ⟨rfl, h1⟩ := hok; exact ur_i_iconst hx hb hdg h1 (hs _ hex)
      | bipush z => obtain ⟨rfl, h1⟩ := hok; exact ur_i_bipush hx hb hdg h1 (hs _ hex)
      | sipush z => obtain ⟨rfl, h1⟩ := hok; exact ur_i_sipush hx hb hdg h1 (hs _ hex)
      | ldc z =>
        obtain ⟨rfl, ⟨rfl, h1⟩ | ⟨j, rfl, h1⟩⟩ := hok
        · exact ur_i_ldc hx hb hown (hts _ h1) hdg (hs _ hex)
        · have hex : ur_do (ur_ex G n d k) (ur_exc G n d) (bif ur_base + j == 0 then ur_nx (pc + 2) ls (.int v :: st) m else ur_nx (pc + 2) ls (.ref (ur_base + j) :: st) m) = some res := hex
          rw [show (ur_base + j == 0) = false by simp [ur_base]] at hex
          obtain ⟨adK, adV, o1, o2, ⟨r0, r1, r2⟩, o4⟩ := id hO
          simp only [ur_strs, List.mem_cons, Prod.mk.injEq, List.not_mem_nil, or_false] at h1
          rcases h1 with ⟨e1, rfl, rfl⟩ | ⟨e1, rfl, rfl⟩ | ⟨e1, rfl, rfl⟩ <;> rw [e1] at hown
          · exact ur_i_ldcS hx hb hown r0 (o1 0 (by decide)).1 hdg (hs _ hex)
          · exact ur_i_ldcS hx hb hown r1 (o1 1 (by decide)).1 hdg (hs _ hex)
          · exact ur_i_ldcS hx hb hown r2 (o1 2 (by decide)).1 hdg (hs _ hex)
      | ldc_w z => obtain ⟨rfl, h1⟩ := hok; exact ur_i_ldc_w hx hb hown (hts _ h1) hdg (hs _ hex)
      | ldc2_w z => obtain ⟨rfl, h1⟩ := hok; exact ur_i_ldc2 hx hb hown (hts _ h1) hdg (hs _ hex)
      | lconst z => obtain ⟨rfl, rfl⟩ := hok; exact ur_i_lconst hx hb hdg rfl (hs _ hex)
      | getstatic z =>
        obtain ⟨rfl, ⟨rfl, rfl, h1⟩ | ⟨rfl, h1⟩⟩ := hok
        · exact ur_i_getsI hx hb hown hO (hts _ h1) hdg (hs _ hex)
        · exact ur_i_getsR hx hb hown hO (hts _ h1) hdg (hs _ hex)
      | iload_n z =>
        obtain rfl := hok
        simp only [ur_one, ur_ldi] at hex
        split at hex
        next h => exact ur_i_iload_n hx hb hdg h (hs _ hex)
        next => cases hex
      | iload z =>
        obtain rfl := hok
        simp only [ur_one, ur_ldi] at hex
        split at hex
        next h => exact ur_i_iload hx hb hdg h (hs _ hex)
        next => cases hex
      | lload_n z =>
        obtain rfl := hok
        simp only [ur_one, ur_ldl] at hex
        split at hex
        next h => exact ur_i_lload_n hx hb hdg h (hs _ hex)
        next => cases hex
      | lload z =>
        obtain rfl := hok
        simp only [ur_one, ur_ldl] at hex
        split at hex
        next h => exact ur_i_lload hx hb hdg h (hs _ hex)
        next => cases hex
      | aload_n z =>
        obtain rfl := hok
        simp only [ur_one, ur_lda] at hex
        split at hex
        next h => exact ur_i_aload_n hx hb had hdg h (hs _ hex)
        next => cases hex
      | aload z =>
        obtain rfl := hok
        simp only [ur_one, ur_lda] at hex
        split at hex
        next h => exact ur_i_aload hx hb had hdg h (hs _ hex)
        next => cases hex
      | istore_n z =>
        obtain rfl := hok
        simp only [ur_one, ur_sti] at hex
        split at hex
        next w r =>
          cases hq : Nat.blt z ls.length with
          | true => rw [hq] at hex; exact ur_i_istore_n hx hb had hdg (Nat.le_of_ble_eq_true hq) (hs _ hex)
          | false => rw [hq] at hex; cases hex
        next => cases hex
      | istore z =>
        obtain rfl := hok
        simp only [ur_one, ur_sti] at hex
        split at hex
        next w r =>
          cases hq : Nat.blt z ls.length with
          | true => rw [hq] at hex; exact ur_i_istore hx hb had hdg (Nat.le_of_ble_eq_true hq) (hs _ hex)
          | false => rw [hq] at hex; cases hex
        next => cases hex
      | lstore_n z =>
        obtain rfl := hok
        simp only [ur_one, ur_stl] at hex
        split at hex
        next w r =>
          cases hq : Nat.blt (z + 1) ls.length with
          | true => rw [hq] at hex; exact ur_i_lstore_n hx hb had hdg (Nat.le_of_ble_eq_true hq) (hs _ hex)
          | false => rw [hq] at hex; cases hex
        next => cases hex
      | lstore z =>
        obtain rfl := hok
        simp only [ur_one, ur_stl] at hex
        split at hex
        next w r =>
          cases hq : Nat.blt (z + 1) ls.length with
          | true => rw [hq] at hex; exact ur_i_lstore hx hb had hdg (Nat.le_of_ble_eq_true hq) (hs _ hex)
          | false => rw [hq] at hex; cases hex
        next => cases hex
      | astore_n z =>
        obtain rfl := hok
        simp only [ur_one, ur_sta] at hex
        split at hex
        next w r =>
          cases hq : Nat.blt z ls.length with
          | true => rw [hq] at hex; exact ur_i_astore_n hx hb had hdg (Nat.le_of_ble_eq_true hq) (hs _ hex)
          | false => rw [hq] at hex; cases hex
        next => cases hex
      | astore z =>
        obtain rfl := hok
        simp only [ur_one, ur_sta] at hex
        split at hex
        next w r =>
          cases hq : Nat.blt z ls.length with
          | true => rw [hq] at hex; exact ur_i_astore hx hb had hdg (Nat.le_of_ble_eq_true hq) (hs _ hex)
          | false => rw [hq] at hex; cases hex
        next => cases hex
      | iinc j z =>
        obtain ⟨rfl, h1⟩ := hok
        simp only [ur_one] at hex
        split at hex
        next w hw =>
          cases hq : Nat.blt j ls.length with
          | true => rw [hq] at hex; exact ur_i_iinc hx hb had hdg hw h1 (Nat.le_of_ble_eq_true hq) (hs _ hex)
          | false => rw [hq] at hex; cases hex
        next => cases hex
      | iadd => obtain rfl := hok; exact ur_i_iadd hx hb hdg hs hex
      | isub => obtain rfl := hok; exact ur_i_isub hx hb hdg hs hex
      | imul => obtain rfl := hok; exact ur_i_imul hx hb hdg hs hex
      | iand => obtain rfl := hok; exact ur_i_iand hx hb hdg hs hex
      | ior => obtain rfl := hok; exact ur_i_ior hx hb hdg hs hex
      | ixor => obtain rfl := hok; exact ur_i_ixor hx hb hdg hs hex
      | ishl => obtain rfl := hok; exact ur_i_ishl hx hb hdg hs hex
      | ishr => obtain rfl := hok; exact ur_i_ishr hx hb hdg hs hex
      | iushr => obtain rfl := hok; exact ur_i_iushr hx hb hdg hs hex
      | ladd => obtain rfl := hok; exact ur_i_ladd hx hb hdg hs hex
      | lsub => obtain rfl := hok; exact ur_i_lsub hx hb hdg hs hex
      | lmul => obtain rfl := hok; exact ur_i_lmul hx hb hdg hs hex
      | land => obtain rfl := hok; exact ur_i_land hx hb hdg hs hex
      | lor => obtain rfl := hok; exact ur_i_lor hx hb hdg hs hex
      | ineg => obtain rfl := hok; exact ur_i_ineg hx hb hdg hs hex
      | i2l => obtain rfl := hok; exact ur_i_i2l hx hb hdg hs hex
      | i2c => obtain rfl := hok; exact ur_i_i2c hx hb hdg hs hex
      | i2b => obtain rfl := hok; exact ur_i_i2b hx hb hdg hs hex
      | iaload => obtain rfl := hok; exact ur_i_iaload hx hb hK hdg hs hex
      | caload => obtain rfl := hok; exact ur_i_caload hx hb hK hdg hs hex
      | iastore => obtain rfl := hok; exact ur_i_iastore hx hb hK hdg hs hex
      | bastore => obtain rfl := hok; exact ur_i_bastore hx hb hK hdg hs hex
      | castore => obtain rfl := hok; exact ur_i_castore hx hb hK hdg hs hex
      | baload => obtain rfl := hok; exact ur_i_baload hx hb hK hO hdg hs hex
      | idiv =>
        obtain rfl := hok
        simp only [ur_one] at hex
        split at hex
        · exact ur_i_idiv hx hb hdg hs hex
        · cases hex
      | irem =>
        obtain rfl := hok
        simp only [ur_one] at hex
        split at hex
        · exact ur_i_irem hx hb hdg hs hex
        · cases hex
      | ldiv =>
        obtain rfl := hok
        simp only [ur_one] at hex
        split at hex
        · exact ur_i_ldiv hx hb hdg hs hex
        · cases hex
      | lrem =>
        obtain rfl := hok
        simp only [ur_one] at hex
        split at hex
        · exact ur_i_lrem hx hb hdg hs hex
        · cases hex
      | laload =>
        obtain rfl := hok
        simp only [ur_one] at hex
        split at hex
        · exact ur_i_laload hx hb hK hdg hs hex
        · cases hex
      | aaload =>
        obtain rfl := hok
        simp only [ur_one] at hex
        split at hex
        · exact ur_i_aaload hx hb hK hdg hs hex
        · cases hex
      | lastore =>
        obtain rfl := hok
        simp only [ur_one] at hex
        split at hex
        · exact ur_i_lastore hx hb hK hdg hs hex
        · cases hex
      | aastore =>
        obtain rfl := hok
        simp only [ur_one] at hex
        split at hex
        · exact ur_i_aastore hx hb hK hdg hs hex
        · cases hex
      | l2i =>
        obtain rfl := hok
        simp only [ur_one] at hex
        split at hex
        · exact ur_i_l2i hx hb hdg (hs _ hex)
        · cases hex
      | lushr =>
        obtain rfl := hok
        simp only [ur_one] at hex
        split at hex
        · exact ur_i_lushr hx hb hdg (hs _ hex)
        · cases hex
      | lcmp =>
        obtain rfl := hok
        simp only [ur_one] at hex
        split at hex
        · exact ur_i_lcmp hx hb hdg (hs _ hex)
        · cases hex
      | dup =>
        obtain rfl := hok
        simp only [ur_one] at hex
        split at hex
        · exact ur_i_dup hx hb had hdg rfl (hs _ hex)
        · exact ur_i_dup hx hb had hdg rfl (hs _ hex)
        · cases hex
      | pop =>
        obtain rfl := hok
        simp only [ur_one] at hex
        split at hex
        · exact ur_i_pop hx hb had hdg rfl (hs _ hex)
        · exact ur_i_pop hx hb had hdg rfl (hs _ hex)
        · cases hex
      | dup2 =>
        obtain rfl := hok
        simp only [ur_one] at hex
        split at hex
        · exact ur_i_dup2 hx hb had hdg rfl rfl (hs _ hex)
        · cases hex
      | goto o => obtain ⟨rfl, h1⟩ := hok; exact ur_i_goto hx hb hdg h1 (hs _ hex)
      | ifCond cn o => obtain ⟨rfl, h1⟩ := hok; exact ur_i_if1 hx hb hdg h1 hs hex
      | if_icmp cn o => obtain ⟨rfl, h1⟩ := hok; exact ur_i_if2 hx hb hdg h1 hs hex
      | tableswitch df lo hi offs =>
        obtain ⟨h1, h2, h3⟩ := hok
        simp only [ur_one] at hex
        split at hex
        · exact ur_i_table hx hb hdg h1 h2 h3 (hs _ (ur_sel_do hex))
        · cases hex
      | lookupswitch df ps =>
        obtain ⟨h1, h2, h3⟩ := hok
        simp only [ur_one] at hex
        split at hex
        · exact ur_i_lookup hx hb hdg h1 h2 h3 (hs _ (ur_sel_do hex))
        · cases hex
      | getfield z => obtain ⟨rfl, h1⟩ := hok; exact ur_j_getf hx hb hts hown hK hO hcl h1 hdg hs hex
      | putfield z => obtain ⟨rfl, h1, h2⟩ := hok; exact ur_j_putf hx hb had hts hown hK hcl h1 (fun q => hname.trans (of_decide_eq_true q)) h2 hdg hs hex
      | arraylength =>
        obtain rfl := hok
        simp only [ur_one] at hex
        split at hex
        · exact ur_i_len hx hb hK hO hdg hs hex
        · cases hex
      | newarray t =>
        obtain ⟨rfl, h1⟩ := hok
        simp only [ur_one] at hex
        split at hex
        next t' w r ht => exact ur_i_newa hx hb hK hA hAb hZ ht (hts _ h1) hdg hgrow hR hs hex
        next => cases hex
      | anewarray z =>
        obtain ⟨rfl, h1⟩ := hok
        simp only [ur_one] at hex
        obtain ⟨adK, adV, o1, o2, o3, o4, o5, o6, o7, o8⟩ := id hO
        split at hex
        · rcases h1 with ⟨rfl, h1⟩ | ⟨rfl, h1⟩
          · exact ur_i_newq hx hb hK hA hAb hZ hown (hts _ h1) o7 (Or.inl rfl) rfl hdg hgrow hR hs hex
          · exact ur_i_newq hx hb hK hA hAb hZ hown (hts _ h1) o8 (Or.inr rfl) rfl hdg hgrow hR hs hex
        · cases hex
      | new z =>
        obtain ⟨rfl, C, T, N', hc, h1⟩ := hok
        obtain ⟨c1, c2, c3, ⟨ty, c4, c5⟩, c6, c7⟩ := hcl _ _ _ _ hc
        exact ur_i_new hx hb hts hK hA hAb hZ hown hc c1 c2 ty c4 (fun j hj => ur_ktf_def (c5 j hj)) (hts _ h1) (hts _ c6) (hts _ c7) hdg hgrow hR hs hex
      | invokevirtual z =>
        obtain ⟨rfl, np, h1, h2, h3, h4, h5, h6⟩ := hok
        exact ur_i_virt had ih hcx hZ hR h1 h2 h3 h4 h5 h6 hdg hs hex
      | invokestatic z =>
        obtain ⟨rfl, ⟨rfl, h1, h2, h3, h4⟩ | ⟨rfl, h1, h2, h3, h4⟩ | ⟨rfl, h1, h2, h3, h4⟩ | ⟨np, h1, h2, h3, h4⟩⟩ := hok
        · replace hex : ur_do (ur_ex G n d k) (ur_exc G n d) (ur_lib0 pc ls st m) = some res := hex
          simp only [ur_lib0] at hex
          split at hex
          next w j b i a r =>
            cases hq : Nat.ble (ur_cs r) 8 with
            | true => rw [hq] at hex; exact ur_i_copy hx hb hml hK hown (hts _ h1) (hts _ h2) (hts _ h3) (hts _ h4) hRl (by rw [ur_cs_map had]; exact Nat.le_of_ble_eq_true hq) hdg hs hex
            | false => rw [hq] at hex; cases hex
          next => cases hex
        · replace hex : ur_do (ur_ex G n d k) (ur_exc G n d) (ur_lib2 ur_mx pc ls st m) = some res := hex
          simp only [ur_lib2] at hex
          split at hex
          next b a r =>
            cases hq : Nat.ble (ur_cs r) 8 with
            | true => rw [hq] at hex; exact ur_i_max hx hb hml hown (hts _ h1) (hts _ h2) (hts _ h3) (hts _ h4) hRl ⟨Nat.le_trans (hgrow _ hex).1 hR.1, Nat.le_trans (hgrow _ hex).2 hR.2⟩ (by rw [ur_cs_map had]; exact Nat.le_of_ble_eq_true hq) hdg (hs _ hex)
            | false => rw [hq] at hex; cases hex
          next => cases hex
        · replace hex : ur_do (ur_ex G n d k) (ur_exc G n d) (ur_lib2 ur_mn pc ls st m) = some res := hex
          simp only [ur_lib2] at hex
          split at hex
          next b a r =>
            cases hq : Nat.ble (ur_cs r) 8 with
            | true => rw [hq] at hex; exact ur_i_min hx hb hml hown (hts _ h1) (hts _ h2) (hts _ h3) (hts _ h4) hRl ⟨Nat.le_trans (hgrow _ hex).1 hR.1, Nat.le_trans (hgrow _ hex).2 hR.2⟩ (by rw [ur_cs_map had]; exact Nat.le_of_ble_eq_true hq) hdg (hs _ hex)
            | false => rw [hq] at hex; cases hex
          next => cases hex
        · exact ur_i_stat had ih hcx hZ hR h1 h2 h3 h4 hdg hs hex
      | invokespecial z =>
        obtain ⟨rfl, ⟨rfl, h1, h2, h3⟩ | ⟨np, h1, h2, h3, h4, h5, h6, h7⟩⟩ := hok
        · replace hex : ur_do (ur_ex G n d k) (ur_exc G n d) (ur_lib1 pc ls st m) = some res := hex
          simp only [ur_lib1] at hex
          split at hex
          next a r =>
            cases hq : (Nat.ble (ur_cs r) 8 && decide (a < ur_base)) with
            | true =>
              rw [hq] at hex
              simp only [Bool.and_eq_true, decide_eq_true_eq] at hq
              exact ur_i_oin hx hb hml hown (hts _ h1) (hts _ h2) (hts _ h3) hRl (by rw [ur_cs_map had]; exact Nat.le_of_ble_eq_true hq.1) hq.2 hdg (hs _ hex)
            | false => rw [hq] at hex; cases hex
          next => cases hex
        · exact ur_i_spec had ih hcx hZ hR h1 h2 h3 h4 h5 h6 h7 hdg hs hex
      | ireturn =>
        obtain ⟨rfl, ty, hty⟩ := hok
        simp only [ur_one] at hex
        split at hex
        next a =>
          have hex : (bif ur_fit (G k).2.2.2.1 a then some (a, m) else none) = some res := hex
          obtain ⟨g1, g2⟩ := ur_cond_t hex
          cases g2
          rw [hty]
          exact ur_j_ret hx hb (hret.trans hty) hlocks (hM.2.2.2.2.2 ty hty a g1) hdg
        next => cases hex
      | return_ =>
        obtain ⟨rfl, hty⟩ := hok
        simp only [ur_one] at hex
        split at hex
        · have hex : some ((0 : Int32), m) = some res := hex
          cases hex
          rw [hty]
          exact ur_j_retv hx hb (hret.trans hty) hlocks hdg
        · cases hex
      | _ => cases hex
    next => cases hex

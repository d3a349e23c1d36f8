set_option maxHeartbeats 2000000 in
set_option maxRecDepth 100000 in
theorem m_addText (l : Launch) (g : z_G) (h : z_H) {mo : Nat} {T : List Nat} {S : Sch} {R : Rec} {O : List Nat} {pa f9 : Int32} {i : Nat}  (hM : MAt g h mo T S R O) (hi : i ≤ T.length) (hs8 : S.1 ≤ 128) (hR2 : R.1 ≤ 2000) (hR1 : 0 < R.1) (hpa : paOK R) (ho : ordOK S R) (htb9 : tbC R.2 R.1 ≤ 16000) : z_C l y_M_addText prog_13_method_40_code 6 (Option.some Jvm.ClassFile.FieldType.int) 2 110 0 0 g [.ref mo, .int pa, .int f9, .int (nI i)] h (fun x h1 => MPt g h x (.int (oAddText T S R pa f9 (nI i)).1) h1 mo (oAddText T S R pa f9 (nI i)).2.1 S (oAddText T S R pa f9 (nI i)).2.2 O) := by
  refine z_C.of (by decide) (Nat.le_of_ble_eq_true rfl) (fun pg en s m below meth cd A ls hx hb hml hr hts hown hlocks hnm hK hE hA hw hl => ?_)
  have hl : lv_has ls 6 [(0, .ref mo), (1, .int pa), (2, .int f9), (3, .int (nI i))] := hl
  obtain ⟨ma, cod, siz, ffl, fcl, at9, il, hmo, hTp, hTx, ⟨rw9, rf, lf, hSc⟩, hSf, ⟨nf, np, nr, ns, nv, tx, hNd⟩, hOl, hOu⟩ := id hM
  obtain ⟨ftp, htp, hT4, hTv⟩ := id hTp
  obtain ⟨fou, hou, hO6, hOv⟩ := id hOu
  obtain ⟨ftx, htx⟩ := id hTx
  have hrw_1 : h (rw9 1) = some ((24, 1), .inl (g.2.1 1, 128, .inl (rf 1))) := hSc.2.1 1 (by omega)
  have kk0 : z_K (fun y => y = 20 ∨ y = 22 ∨ y = 29 ∨ y = 30 ∨ y = 31) h h := z_K.rf
  have sg_Nh : z_K (fun y => y = 20 ∨ y = 22) h h := z_K.rf
  refine lv_aload_n hx hb d_M_addText_0 rfl (lv_at hl 0 rfl) ?_
  refine lv_iconst (v := 0) hx hb d_M_addText_1 (by decide) ?_
  refine z_putf (ty := .int) hx hb hts (z_lay i_M) t_M t_M_ok n_M hown hK hw hmo rfl 0 (by decide) (z_in k_771 rfl) (fun _ h9 => h9) rfl (by decide +kernel) rfl rfl (Nat.le_of_ble_eq_true rfl) d_M_addText_2 (fun H locs hw => ?_)
  obtain ⟨h1, hh1⟩ : ∃ x9, z_put h mo (20, 0) (.inr (11, mF ma 0 (nI T.length) siz (nI S.1) (nI (cc S)) ffl fcl (nI R.1) (nI (tbC R.2 R.1)) (nI O.length) at9 il)) = x9 := ⟨_, rfl⟩
  have hw : z_S g A s.heap h1 H locs := by rw [← hh1]; exact hw
  have f1_mo : h1 mo = some ((20, 0), .inr (11, mF ma 0 (nI T.length) siz (nI S.1) (nI (cc S)) ffl fcl (nI R.1) (nI (tbC R.2 R.1)) (nI O.length) at9 il)) := by rw [← hh1]; exact z_put_eq
  have f1_ma_1 : h1 (ma 1) = some ((22, 0), .inl (g.2.1 1, 4000, .inl ftx)) := by rw [← hh1]; exact z_keep hmo htx (z_t1 (by decide))
  have f1_ma_0 : h1 (ma 0) = some ((21, 0), .inl (g.2.1 1, 4000, .inl ftp)) := by rw [← hh1]; exact z_keep hmo htp (z_t1 (by decide))
  have f1_ma_2 : h1 (ma 2) = some ((23, 0), .inl (g.2.1 5, 6, .inr (.inr (.inr (.inr (fun k => some (rw9 k))))))) := by rw [← hh1]; exact z_keep hmo hSc.1 (z_t1 (by decide))
  have f1_rw9_1 : h1 (rw9 1) = some ((24, 1), .inl (g.2.1 1, 128, .inl (rf 1))) := by rw [← hh1]; exact z_keep hmo hrw_1 (z_t1 (by decide))
  have kk1 : z_K (fun y => y = 20 ∨ y = 22 ∨ y = 29 ∨ y = 30 ∨ y = 31) h h1 := kk0.tr (by rw [← hh1]; exact z_K.put hmo (by first | decide | simp | omega))
  have sg_Nh1 : z_K (fun y => y = 20 ∨ y = 22) h h1 := sg_Nh.tr (by rw [← hh1]; exact z_K.put hmo (by simp))
  refine lv_aload_n hx hb d_M_addText_5 rfl (lv_at hl 0 rfl) ?_
  refine lv_iload_n hx hb d_M_addText_6 rfl (lv_at hl 3 rfl) ?_
  refine z_callV (n := 1) (As := [.int (nI i)]) (rest := []) ⟨hx, hb, hml, hown, hts⟩ (m_takes (n := i) l g h1 f1_mo f1_ma_1 f1_ma_0 hT4 hi) (z_in k_877 rfl) (z_in k_7 rfl) (z_in k_874 rfl) (z_in k_876 rfl) (z_in ks_25 rfl) (by decide +kernel) ⟨by first | exact Nat.le_of_ble_eq_true rfl | (dsimp only; omega) | omega, by first | exact Nat.le_of_ble_eq_true rfl | (dsimp only; omega) | omega⟩ hK hE hw hA rfl f1_mo rfl hl.1 (Nat.le_of_ble_eq_true rfl) d_M_addText_7 ⟨by first | exact Nat.le_of_ble_eq_true rfl | (dsimp only; omega) | omega, by first | exact Nat.le_of_ble_eq_true rfl | (dsimp only; omega) | omega⟩ rfl (fun r9 h9 H locs hp hw => ?_)
  obtain ⟨f2, r8, m8, t8, cp8, k8⟩ := hp
  subst r8
  obtain ⟨h2, e7⟩ : ∃ x9, x9 = h9 := ⟨_, rfl⟩
  subst e7
  have g2_ma_0 : h2 (ma 0) = some ((21, 0), .inl (g.2.1 1, 4000, .inl ftp)) := k8 _ _ _ f1_ma_0 (by simp)
  have g2_ma_2 : h2 (ma 2) = some ((23, 0), .inl (g.2.1 5, 6, .inr (.inr (.inr (.inr (fun k => some (rw9 k))))))) := k8 _ _ _ f1_ma_2 (by simp)
  have g2_rw9_1 : h2 (rw9 1) = some ((24, 1), .inl (g.2.1 1, 128, .inl (rf 1))) := k8 _ _ _ f1_rw9_1 (by simp)
  have kk2 : z_K (fun y => y = 20 ∨ y = 22 ∨ y = 29 ∨ y = 30 ∨ y = 31) h h2 := kk1.tr (k8.mono (fun y z => by omega))
  have sg_Nh2 : z_K (fun y => y = 20 ∨ y = 22) h h2 := sg_Nh1.tr (k8.mono (fun y z => by omega))
  have hn4 : i ≤ 4000 := by omega
  have hf2 : ∀ k, k < i → tT T k < 256 ∧ f2 k = nI (tT T k) := fun k hk => ⟨(hTv k (by omega)).1, by rw [cp8 k hk]; exact (hTv k (by omega)).2⟩
  refine W.eq (g2 := F0 m 10 ls [.int 1]) rfl ?_
  refine lv_if_ne (tgt := 16) hx hb d_M_addText_10 (by decide) (fun c_10 => ?_) (fun c_10 => ?_)
  · -- 10: True
    refine lv_aload_n hx hb d_M_addText_16 rfl (lv_at hl 0 rfl) ?_
    refine lv_iload_n hx hb d_M_addText_17 rfl (lv_at hl 1 rfl) ?_
    refine lv_iload_n hx hb d_M_addText_18 rfl (lv_at hl 2 rfl) ?_
    refine z_callV (n := 2) (As := [.int pa, .int f9]) (rest := []) ⟨hx, hb, hml, hown, hts⟩ (m_may l g h2 m8 (hSc.k sg_Nh2 (by omega) (by omega) (by omega)) (hNd.k sg_Nh2 (by omega) (by omega) (by omega)) hs8 hR2 hR1 hpa ho) (z_in k_1025 rfl) (z_in k_7 rfl) (z_in k_1022 rfl) (z_in k_1024 rfl) (z_in ks_49 rfl) (by decide +kernel) ⟨by first | exact Nat.le_of_ble_eq_true rfl | (dsimp only; omega) | omega, by first | exact Nat.le_of_ble_eq_true rfl | (dsimp only; omega) | omega⟩ hK hE hw hA rfl m8 rfl hl.1 (Nat.le_of_ble_eq_true rfl) d_M_addText_19 ⟨by first | exact Nat.le_of_ble_eq_true rfl | (dsimp only; omega) | omega, by first | exact Nat.le_of_ble_eq_true rfl | (dsimp only; omega) | omega⟩ rfl (fun r9 h9 H locs hp hw => ?_)
    obtain ⟨r8, h8⟩ := hp
    subst r8
    subst h8
    refine W.eq (g2 := F0 m 22 ls [.int (zb (mayM S R pa f9))]) rfl ?_
    refine lv_if_eq (tgt := 56) hx hb d_M_addText_22 (by decide) (fun c_22 => ?_) (fun c_22 => ?_)
    · -- 22: True
      have c_22 : (mayM S R pa f9) = false := zb_f c_22
      refine lv_iconst (v := (-1)) hx hb d_M_addText_56 (by decide) ?_
      exact z_iret hx hb hr hlocks hw (by have eW : oAddText T S R pa f9 (nI i) = (-1, [], R) := (by unfold oAddText; rw [if_neg (not_few hi hT4), okAdd_may, c_22, Bool.false_and, Bool.false_and]; rfl); refine ⟨by rw [eW], ?_, kk2.mono (fun y z => by unfold KMr; omega)⟩; rw [eW]; exact ⟨ma, _, _, _, _, _, _, m8, ⟨ftp, g2_ma_0, Nat.zero_le _, fun k hk => absurd hk (Nat.not_lt_zero _)⟩, ⟨_, t8⟩, ⟨_, _, _, hSc.k kk2 (by omega) (by omega) (by omega)⟩, hSf.k kk2 (by omega) (by omega) (by omega), ⟨_, _, _, _, _, _, hNd.k sg_Nh2 (by omega) (by omega) (by omega)⟩, hOl.k kk2 (by omega) (by omega) (by omega), hOu.k kk2 (by omega)⟩) (by decide) (by decide) d_M_addText_57
    · -- 22: False
      have c_22 : (mayM S R pa f9) = true := zb_t c_22
      obtain ⟨mi1, mi2, mi3⟩ := mayM_in c_22
      obtain ⟨fi, hfi, ef⟩ := isIx_ex mi1 (by omega)
      have hl : lv_has ls 6 [(0, .ref mo), (1, .int pa), (2, .int (nI fi)), (3, .int (nI i))] := by rw [← ef]; exact hl
      refine lv_aload_n hx hb d_M_addText_25 rfl (lv_at hl 0 rfl) ?_
      refine z_get hx hb hts (z_lay i_M) hown hK hw m8 rfl 5 (by decide) (z_in k_776 rfl) (fun _ h9 => h9) rfl d_M_addText_26 ?_
      refine lv_iconst (v := 1) hx hb d_M_addText_29 (by decide) ?_
      refine z_aldr hx hb hK hw g2_ma_2 5 rfl (by unfold vp_in; decide) d_M_addText_30 ?_
      refine z_top (y := va_rf ((fun k => some (rw9 k)) 1)) (by rfl) ?_
      refine z_top (y := .ref (rw9 1)) (rfl) ?_
      refine lv_iload_n hx hb d_M_addText_31 rfl (lv_at hl 2 rfl) ?_
      refine z_iald hx hb hK hw g2_rw9_1 1 rfl (vp_in_nI (by omega) (by omega)) d_M_addText_32 ?_
      refine z_topi (y := (rf 1) fi) (by rw [nI_clamp (by omega)]) ?_
      refine z_top (y := .int (fTy (S.2 fi))) (by rw [(hSc.2.2.2 fi hfi).2.1]) ?_
      refine lv_iconst (v := 3) hx hb d_M_addText_33 (by decide) ?_
      refine lv_icmp_ne (tgt := 56) hx hb d_M_addText_34 (by decide) (fun c_34 => ?_) (fun c_34 => ?_)
      · -- 34: True
        refine lv_iconst (v := (-1)) hx hb d_M_addText_56 (by decide) ?_
        exact z_iret hx hb hr hlocks hw (by have eW : oAddText T S R pa f9 (nI i) = (-1, [], R) := (by unfold oAddText; rw [if_neg (not_few hi hT4), okAdd_may, ef, nI_clamp (show fi < 2 ^ 31 by omega), decide_eq_false (show ¬ fTy (S.2 fi) = 3 from c_34), Bool.false_and, Bool.and_false, Bool.false_and]; rfl); refine ⟨by rw [eW], ?_, kk2.mono (fun y z => by unfold KMr; omega)⟩; rw [eW]; exact ⟨ma, _, _, _, _, _, _, m8, ⟨ftp, g2_ma_0, Nat.zero_le _, fun k hk => absurd hk (Nat.not_lt_zero _)⟩, ⟨_, t8⟩, ⟨_, _, _, hSc.k kk2 (by omega) (by omega) (by omega)⟩, hSf.k kk2 (by omega) (by omega) (by omega), ⟨_, _, _, _, _, _, hNd.k sg_Nh2 (by omega) (by omega) (by omega)⟩, hOl.k kk2 (by omega) (by omega) (by omega), hOu.k kk2 (by omega)⟩) (by decide) (by decide) d_M_addText_57
      · -- 34: False
        refine lv_iload_n hx hb d_M_addText_37 rfl (lv_at hl 3 rfl) ?_
        refine lv_sipush (v := 255) hx hb d_M_addText_38 (by decide) ?_
        refine lv_icmp_gt (tgt := 56) hx hb d_M_addText_41 (by decide) (fun c_41 => ?_) (fun c_41 => ?_)
        · -- 41: True
          have c_41 : 255 < i := (nI_ltI (a := 255) (b := i) (by omega) (by omega)).mp c_41
          refine lv_iconst (v := (-1)) hx hb d_M_addText_56 (by decide) ?_
          exact z_iret hx hb hr hlocks hw (by have eW : oAddText T S R pa f9 (nI i) = (-1, [], R) := (by unfold oAddText; rw [if_neg (not_few hi hT4), okAdd_may, decide_eq_false (show ¬ nI i ≤ 255 from fun z => absurd ((nI_leI (a := i) (b := 255) (by omega) (by omega)).mp z) (by omega)), Bool.and_false, Bool.and_false, Bool.false_and]; rfl); refine ⟨by rw [eW], ?_, kk2.mono (fun y z => by unfold KMr; omega)⟩; rw [eW]; exact ⟨ma, _, _, _, _, _, _, m8, ⟨ftp, g2_ma_0, Nat.zero_le _, fun k hk => absurd hk (Nat.not_lt_zero _)⟩, ⟨_, t8⟩, ⟨_, _, _, hSc.k kk2 (by omega) (by omega) (by omega)⟩, hSf.k kk2 (by omega) (by omega) (by omega), ⟨_, _, _, _, _, _, hNd.k sg_Nh2 (by omega) (by omega) (by omega)⟩, hOl.k kk2 (by omega) (by omega) (by omega), hOu.k kk2 (by omega)⟩) (by decide) (by decide) d_M_addText_57
        · -- 41: False
          have c_41 : ¬ (255 < i) := fun z => c_41 ((nI_ltI (a := 255) (b := i) (by omega) (by omega)).mpr z)
          refine lv_aload_n hx hb d_M_addText_44 rfl (lv_at hl 0 rfl) ?_
          refine z_get hx hb hts (z_lay i_M) hown hK hw m8 rfl 19 (by decide) (z_in k_790 rfl) (fun _ h9 => h9) rfl d_M_addText_45 ?_
          refine lv_iload_n hx hb d_M_addText_48 rfl (lv_at hl 3 rfl) ?_
          refine lv_iadd hx hb d_M_addText_49 ?_
          refine z_topi (y := nI ((tbC R.2 R.1) + i)) (nI_add (tbC R.2 R.1) i) ?_
          refine lv_sipush (v := 16000) hx hb d_M_addText_50 (by decide) ?_
          refine lv_icmp_le (tgt := 58) hx hb d_M_addText_53 (by decide) (fun c_53 => ?_) (fun c_53 => ?_)
          · -- 53: True
            have c_53 : ((tbC R.2 R.1) + i) ≤ 16000 := (nI_leI (a := (tbC R.2 R.1) + i) (b := 16000) (by omega) (by omega)).mp c_53
            refine lv_aload_n hx hb d_M_addText_58 rfl (lv_at hl 0 rfl) ?_
            refine lv_iload_n hx hb d_M_addText_59 rfl (lv_at hl 1 rfl) ?_
            refine lv_iload_n hx hb d_M_addText_60 rfl (lv_at hl 2 rfl) ?_
            refine lv_lconst (v := 0) hx hb d_M_addText_61 (by decide) ?_
            have hN2 := hNd.k sg_Nh2 (by omega) (by omega) (by omega)
            refine z_callV (n := 3) (As := [.int pa, .int (nI fi), .long 0]) (rest := []) ⟨hx, hb, hml, hown, hts⟩ (m_node l g h2 m8 hN2 (by omega)) (z_in k_991 rfl) (z_in k_7 rfl) (z_in k_988 rfl) (z_in k_990 rfl) (z_in ks_44 rfl) (by decide +kernel) ⟨by first | exact Nat.le_of_ble_eq_true rfl | (dsimp only; omega) | omega, by first | exact Nat.le_of_ble_eq_true rfl | (dsimp only; omega) | omega⟩ hK hE hw hA rfl m8 rfl hl.1 (Nat.le_of_ble_eq_true rfl) d_M_addText_62 ⟨by first | exact Nat.le_of_ble_eq_true rfl | (dsimp only; omega) | omega, by first | exact Nat.le_of_ble_eq_true rfl | (dsimp only; omega) | omega⟩ rfl (fun r9 h9 H locs hp hw => ?_)
            obtain ⟨r8, m8, n8, k8⟩ := hp
            subst r8
            obtain ⟨h3, e7⟩ : ∃ x9, x9 = h9 := ⟨_, rfl⟩
            subst e7
            have g3_ma_1 : h3 (ma 1) = some ((22, 0), .inl (g.2.1 1, 4000, .inl f2)) := k8 _ _ _ t8 (by simp)
            have g3_ma_0 : h3 (ma 0) = some ((21, 0), .inl (g.2.1 1, 4000, .inl ftp)) := k8 _ _ _ g2_ma_0 (by simp)
            have g3_ma_2 : h3 (ma 2) = some ((23, 0), .inl (g.2.1 5, 6, .inr (.inr (.inr (.inr (fun k => some (rw9 k))))))) := k8 _ _ _ g2_ma_2 (by simp)
            have g3_rw9_1 : h3 (rw9 1) = some ((24, 1), .inl (g.2.1 1, 128, .inl (rf 1))) := k8 _ _ _ g2_rw9_1 (by simp)
            have kk3 : z_K (fun y => y = 20 ∨ y = 22 ∨ y = 29 ∨ y = 30 ∨ y = 31) h h3 := kk2.tr (k8.mono (fun y z => by omega))
            refine W.eq (g2 := F0 m 65 ls [.int (nI R.1)]) rfl ?_
            refine lv_istore (lv' := [(4, .int (nI R.1)), (0, .ref mo), (1, .int pa), (2, .int (nI fi)), (3, .int (nI i))]) hx hb d_M_addText_65 hl (by decide) rfl (fun ls hl => ?_)
            refine lv_iconst (v := 0) hx hb d_M_addText_67 (by decide) ?_
            refine lv_istore (lv' := [(5, .int 0), (4, .int (nI R.1)), (0, .ref mo), (1, .int pa), (2, .int (nI fi)), (3, .int (nI i))]) hx hb d_M_addText_68 hl (by decide) rfl (fun ls hl => ?_)
            have loop_70 : ∀ (fuel : Nat) (k : Nat) (hL : z_H) (H : Heap) (locs : List Loc) (ls : Array Slot) (L70_mo : hL mo = some ((20, 0), .inr (11, mF ma 0 0 (nI i) (nI S.1) (nI (cc S)) ffl fcl (nI (R.1 + 1)) (nI (tbC R.2 R.1 + k)) (nI O.length) 0 (-1)))) (L70_ma_1 : hL (ma 1) = some ((22, 0), .inl (g.2.1 1, 4000, .inl f2))) (L70_ma_0 : hL (ma 0) = some ((21, 0), .inl (g.2.1 1, 4000, .inl ftp))) (hk9 : k ≤ i) (hNk : MNd g hL ma (addN R (nI fi, pa, 0, T.take k))) (kkX : z_K (fun y => y = 20 ∨ y = 22 ∨ y = 29 ∨ y = 30 ∨ y = 31) h hL), (i - k) < fuel → z_S g A s.heap hL H locs → lv_has ls 6 [(0, .ref mo), (1, .int pa), (2, .int (nI fi)), (3, .int (nI i)), (4, .int (nI R.1)), (5, .int (nI k))] → W pg l en { frames := 2, cells := 0, slots := 0, locals := 110 } s m [.ref mo, .int pa, .int f9, .int (nI i)].toArray below meth cd H locs 0 0 (MQ below (z_Q g A (fun x h1 => MPt g h x (.int (oAddText T S R pa f9 (nI i)).1) h1 mo (oAddText T S R pa f9 (nI i)).2.1 S (oAddText T S R pa f9 (nI i)).2.2 O)) [.ref mo, .int pa, .int f9, .int (nI i)].toArray s 0 0 A) (F0 m 70 ls []) := by
              intro fuel
              induction fuel with
              | zero => intro k hL H locs ls L70_mo L70_ma_1 L70_ma_0 hk9 hNk kkX hm; exact absurd hm (Nat.not_lt_zero _)
              | succ fuel ih_70 =>
                intro k hL H locs ls L70_mo L70_ma_1 L70_ma_0 hk9 hNk kkX hm hw hl
                refine lv_iload hx hb d_M_addText_70 (lv_at hl 5 rfl) ?_
                refine lv_iload_n hx hb d_M_addText_72 rfl (lv_at hl 3 rfl) ?_
                refine lv_icmp_ge (tgt := 93) hx hb d_M_addText_73 (by decide) (fun c_73 => ?_) (fun c_73 => ?_)
                · -- 73: True
                  have c_73 : i ≤ k := (nI_leI (a := i) (b := k) (by omega) (by omega)).mp c_73
                  have eki : k = i := by omega
                  rw [eki] at hNk
                  have addNtb : tbC (addN R (nI fi, pa, 0, T.take i)).2 (addN R (nI fi, pa, 0, T.take i)).1 = tbC R.2 R.1 + k := by rw [eki]; exact (addN_tb (R := R) (N := (nI fi, pa, 0, T.take i))).trans (by show _ + (T.take i).length = _; rw [List.length_take]; omega)
                  have fn4 : hL mo = some ((20, 0), .inr (11, mF ma 0 0 (nI i) (nI S.1) (nI (cc S)) ffl fcl (nI ((addN R (nI fi, pa, 0, T.take i)).1)) (nI (tbC (addN R (nI fi, pa, 0, T.take i)).2 (addN R (nI fi, pa, 0, T.take i)).1)) (nI O.length) 0 (-1))) := by rw [addNtb]; exact L70_mo
                  refine lv_iload hx hb d_M_addText_93 (lv_at hl 4 rfl) ?_
                  exact z_iret hx hb hr hlocks hw (by have eW : oAddText T S R pa f9 (nI i) = (nI R.1, [], (addN R (nI fi, pa, 0, T.take i))) := (by unfold oAddText; rw [if_neg (not_few hi hT4), okAdd_may, c_22, ef, nI_clamp (show fi < 2 ^ 31 by omega), nI_clamp (show i < 2 ^ 31 by omega), decide_eq_true (show fTy (S.2 fi) = 3 by simpa using c_34), decide_eq_true (show nI i ≤ 255 from (nI_leI (a := i) (b := 255) (by omega) (by omega)).mpr (by omega)), decide_eq_true (show tbR R + i ≤ 16000 from (show tbC R.2 R.1 + i ≤ 16000 by omega))]; rfl); refine ⟨by rw [eW], ?_, kkX.mono (fun y z => by unfold KMr; omega)⟩; rw [eW]; exact ⟨ma, _, _, _, _, _, _, fn4, ⟨ftp, L70_ma_0, Nat.zero_le _, fun k hk => absurd hk (Nat.not_lt_zero _)⟩, ⟨_, L70_ma_1⟩, ⟨_, _, _, hSc.k kkX (by omega) (by omega) (by omega)⟩, hSf.k kkX (by omega) (by omega) (by omega), hNk, hOl.k kkX (by omega) (by omega) (by omega), hOu.k kkX (by omega)⟩) (by decide) (by decide) d_M_addText_95
                · -- 73: False
                  have c_73 : ¬ (i ≤ k) := fun z => c_73 ((nI_leI (a := i) (b := k) (by omega) (by omega)).mpr z)
                  refine lv_aload_n hx hb d_M_addText_76 rfl (lv_at hl 0 rfl) ?_
                  refine lv_aload_n hx hb d_M_addText_77 rfl (lv_at hl 0 rfl) ?_
                  refine z_get hx hb hts (z_lay i_M) hown hK hw L70_mo rfl 2 (by decide) (z_in k_773 rfl) (fun _ h9 => h9) rfl d_M_addText_78 ?_
                  refine lv_iload hx hb d_M_addText_81 (lv_at hl 5 rfl) ?_
                  refine z_iald hx hb hK hw L70_ma_1 1 rfl (vp_in_nI (by omega) (by omega)) d_M_addText_83 ?_
                  refine z_topi (y := f2 k) (by rw [nI_clamp (by omega)]) ?_
                  refine z_top (y := .int (nI (T.getD k 0))) (by rw [(hf2 k (by omega)).2]; rfl) ?_
                  obtain ⟨nf2, np2, nr2, ns2, nv2, tx2, hN2⟩ := hNk
                  have lk9 : (T.take k).length = k := by rw [List.length_take]; omega
                  have tk9 : T.take k ++ [T.getD k 0] = T.take (k + 1) := by rw [List.take_succ, show T[k]? = some (T.getD k 0) by rw [List.getD_eq_getElem?_getD, List.getElem?_eq_getElem (by omega)]; rfl]; rfl
                  refine z_callV (n := 1) (As := [.int (nI (T.getD k 0))]) (rest := []) ⟨hx, hb, hml, hown, hts⟩ (m_say2 (l9 := T.take k) (m9 := k) (c9 := T.getD k 0) l g hL lk9 L70_mo hN2 (by omega) (by omega) (by omega)) (z_in k_1003 rfl) (z_in k_7 rfl) (z_in k_1000 rfl) (z_in k_1002 rfl) (z_in ks_47 rfl) (by decide +kernel) ⟨by first | exact Nat.le_of_ble_eq_true rfl | (dsimp only; omega) | omega, by first | exact Nat.le_of_ble_eq_true rfl | (dsimp only; omega) | omega⟩ hK hE hw hA rfl L70_mo rfl hl.1 (Nat.le_of_ble_eq_true rfl) d_M_addText_84 ⟨by first | exact Nat.le_of_ble_eq_true rfl | (dsimp only; omega) | omega, by first | exact Nat.le_of_ble_eq_true rfl | (dsimp only; omega) | omega⟩ rfl (fun r9 h9 H locs hp hw => ?_)
                  obtain ⟨r8, m8, n8, k8⟩ := hp
                  subst r8
                  rw [tk9] at n8
                  obtain ⟨h5, e7⟩ : ∃ x9, x9 = h9 := ⟨_, rfl⟩
                  subst e7
                  have g5_ma_1 : h5 (ma 1) = some ((22, 0), .inl (g.2.1 1, 4000, .inl f2)) := k8 _ _ _ L70_ma_1 (by simp)
                  have g5_ma_0 : h5 (ma 0) = some ((21, 0), .inl (g.2.1 1, 4000, .inl ftp)) := k8 _ _ _ L70_ma_0 (by simp)
                  have kk5 : z_K (fun y => y = 20 ∨ y = 22 ∨ y = 29 ∨ y = 30 ∨ y = 31) h h5 := kkX.tr (k8.mono (fun y z => by omega))
                  refine W.eq (g2 := F0 m 87 ls []) rfl ?_
                  refine lv_iinc (v := nI (k + 1)) (lv' := [(5, .int (nI (k + 1))), (0, .ref mo), (1, .int pa), (2, .int (nI fi)), (3, .int (nI i)), (4, .int (nI R.1))]) hx hb d_M_addText_87 hl (k := 5) rfl (nI_1 k) (by decide) rfl (fun ls hl => ?_)
                  refine lv_goto (tgt := 70) hx hb d_M_addText_90 (by decide) ?_
                  refine ih_70 (k + 1) h5 _ _ _ m8 g5_ma_1 g5_ma_0 (by omega) n8 kk5 ?_ hw (lv_sub hl [1, 2, 3, 4, 5, 0] rfl)
                  omega
            exact loop_70 (i - 0 + 1) 0 h3 _ _ _ m8 g3_ma_1 g3_ma_0 (Nat.zero_le _) n8 kk3 (by omega) hw (lv_sub hl [2, 3, 4, 5, 1, 0] rfl)
          · -- 53: False
            have c_53 : ¬ (((tbC R.2 R.1) + i) ≤ 16000) := fun z => c_53 ((nI_leI (a := (tbC R.2 R.1) + i) (b := 16000) (by omega) (by omega)).mpr z)
            refine lv_iconst (v := (-1)) hx hb d_M_addText_56 (by decide) ?_
            exact z_iret hx hb hr hlocks hw (by have eW : oAddText T S R pa f9 (nI i) = (-1, [], R) := (by unfold oAddText; rw [if_neg (not_few hi hT4), okAdd_may, nI_clamp (show i < 2 ^ 31 by omega), decide_eq_false (show ¬ tbR R + i ≤ 16000 from fun z => by have z : tbC R.2 R.1 + i ≤ 16000 := z; omega), Bool.and_false]; rfl); refine ⟨by rw [eW], ?_, kk2.mono (fun y z => by unfold KMr; omega)⟩; rw [eW]; exact ⟨ma, _, _, _, _, _, _, m8, ⟨ftp, g2_ma_0, Nat.zero_le _, fun k hk => absurd hk (Nat.not_lt_zero _)⟩, ⟨_, t8⟩, ⟨_, _, _, hSc.k kk2 (by omega) (by omega) (by omega)⟩, hSf.k kk2 (by omega) (by omega) (by omega), ⟨_, _, _, _, _, _, hNd.k sg_Nh2 (by omega) (by omega) (by omega)⟩, hOl.k kk2 (by omega) (by omega) (by omega), hOu.k kk2 (by omega)⟩) (by decide) (by decide) d_M_addText_57
  · -- 10: False
    exact absurd c_10 (by decide)

def fd (a b c d e : Int32) : List Nat := fb4 a ++ (fb4 b ++ (fb4 c ++ (fb4 d ++ fb4 e)))
theorem oFeed_eq (T : List Nat) (a b c d e : Int32) : oFeed T a b c d e = T ++ fd a b c d e := by
  unfold oFeed fd
  simp only [List.append_assoc]
theorem fd_get (a b c d e : Int32) {k : Nat} (hk : k < 20) : (fd a b c d e).getD k 0 = by4 (if k < 4 then a else if k < 8 then b else if k < 12 then c else if k < 16 then d else e) (k % 4) := by
  rcases (show k = 0 ∨ k = 1 ∨ k = 2 ∨ k = 3 ∨ k = 4 ∨ k = 5 ∨ k = 6 ∨ k = 7 ∨ k = 8 ∨ k = 9 ∨ k = 10 ∨ k = 11 ∨ k = 12 ∨ k = 13 ∨ k = 14 ∨ k = 15 ∨ k = 16 ∨ k = 17 ∨ k = 18 ∨ k = 19 by omega) with rfl | rfl | rfl | rfl | rfl | rfl | rfl | rfl | rfl | rfl | rfl | rfl | rfl | rfl | rfl | rfl | rfl | rfl | rfl | rfl <;> rfl
theorem oFeed_get (T : List Nat) (a b c d e : Int32) {k : Nat} (hk : k < 20) : (oFeed T a b c d e).getD (T.length + k) 0 = by4 (if k < 4 then a else if k < 8 then b else if k < 12 then c else if k < 16 then d else e) (k % 4) := by
  rw [oFeed_eq, ← fd_get a b c d e hk]
  simp only [List.getD_eq_getElem?_getD]
  rw [List.getElem?_append_right (by omega), Nat.add_sub_cancel_left]
theorem oFeed_old (T : List Nat) (a b c d e : Int32) {k : Nat} (hk : k < T.length) : (oFeed T a b c d e).getD k 0 = T.getD k 0 := by
  rw [oFeed_eq]
  simp only [List.getD_eq_getElem?_getD]
  rw [List.getElem?_append_left hk]
theorem oFeed_len (T : List Nat) (a b c d e : Int32) : (oFeed T a b c d e).length = T.length + 20 := by
  rw [oFeed_eq, List.length_append]
  rfl

theorem oFeed_lt (T : List Nat) (a b c d e : Int32) (hT : ∀ j, j < T.length → T.getD j 0 < 256) {j : Nat} (hj : j < (oFeed T a b c d e).length) : (oFeed T a b c d e).getD j 0 < 256 := by
  rw [oFeed_len] at hj
  by_cases h : j < T.length
  · rw [oFeed_old T a b c d e h]; exact hT j h
  · obtain ⟨k, hk⟩ : ∃ k, j = T.length + k := ⟨j - T.length, by omega⟩
    rw [hk, oFeed_get T a b c d e (by omega)]
    exact by4_lt _ _

set_option maxHeartbeats 300000 in
set_option maxRecDepth 100000 in
theorem m_feed_no (l : Launch) (g : z_G) (h : z_H) {mo : Nat} {T : List Nat} {S : Sch} {R : Rec} {O : List Nat} {a b9 c d e : Int32}  (hM : MAt g h mo T S R O) (hno : ¬ T.length + 20 ≤ 4000) : z_C l y_M_feed prog_13_method_3_code 8 (Option.some Jvm.ClassFile.FieldType.boolean) 0 0 0 0 g [.ref mo, .int a, .int b9, .int c, .int d, .int e] h (fun x h1 => MPt g h x (.int 0) h1 mo T S R O) := by
  refine z_C.of (by decide) (Nat.le_of_ble_eq_true rfl) (fun pg en s m below meth cd A ls hx hb hml hr hts hown hlocks hnm hK hE hA hw hl => ?_)
  have hl : lv_has ls 8 [(0, .ref mo), (1, .int a), (2, .int b9), (3, .int c), (4, .int d), (5, .int e)] := hl
  obtain ⟨ma, cod, siz, ffl, fcl, at9, il, hmo, hTp, hTx, ⟨rw9, rf, lf, hSc⟩, hSf, ⟨nf, np, nr, ns, nv, tx, hNd⟩, hOl, hOu⟩ := id hM
  obtain ⟨ftp, htp, hT4, hTv⟩ := id hTp
  obtain ⟨fou, hou, hO6, hOv⟩ := id hOu
  have kk0 : z_K (fun y => y = 20) h h := z_K.rf
  refine lv_aload_n hx hb d_M_feed_0 rfl (lv_at hl 0 rfl) ?_
  refine lv_iconst (v := 0) hx hb d_M_feed_1 (by decide) ?_
  refine z_putf (ty := .int) hx hb hts (z_lay i_M) t_M t_M_ok n_M hown hK hw hmo rfl 0 (by decide) (z_in k_771 rfl) (fun _ h9 => h9) rfl (by decide +kernel) rfl rfl (Nat.le_of_ble_eq_true rfl) d_M_feed_2 (fun H locs hw => ?_)
  obtain ⟨h1, hh1⟩ : ∃ x9, z_put h mo (20, 0) (.inr (11, mF ma 0 (nI T.length) siz (nI S.1) (nI (cc S)) ffl fcl (nI R.1) (nI (tbC R.2 R.1)) (nI O.length) at9 il)) = x9 := ⟨_, rfl⟩
  have hw : z_S g A s.heap h1 H locs := by rw [← hh1]; exact hw
  have f1_mo : h1 mo = some ((20, 0), .inr (11, mF ma 0 (nI T.length) siz (nI S.1) (nI (cc S)) ffl fcl (nI R.1) (nI (tbC R.2 R.1)) (nI O.length) at9 il)) := by rw [← hh1]; exact z_put_eq
  have kk1 : z_K (fun y => y = 20) h h1 := kk0.tr (by rw [← hh1]; exact z_K.put hmo (by first | decide | simp | omega))
  refine lv_aload_n hx hb d_M_feed_5 rfl (lv_at hl 0 rfl) ?_
  refine z_get hx hb hts (z_lay i_M) hown hK hw f1_mo rfl 3 (by decide) (z_in k_774 rfl) (fun _ h9 => h9) rfl d_M_feed_6 ?_
  refine lv_bipush (v := 20) hx hb d_M_feed_9 (by decide) ?_
  refine lv_iadd hx hb d_M_feed_11 ?_
  refine z_topi (y := nI (T.length + 20)) (nI_add T.length 20) ?_
  refine lv_sipush (v := 4000) hx hb d_M_feed_12 (by decide) ?_
  refine lv_icmp_le (tgt := 20) hx hb d_M_feed_15 (by decide) (fun c_15 => ?_) (fun c_15 => ?_)
  · -- 15: True
    have c_15 : (T.length + 20) ≤ 4000 := (nI_leI (a := T.length + 20) (b := 4000) (by omega) (by omega)).mp c_15
    exact absurd c_15 hno
  · -- 15: False
    have c_15 : ¬ ((T.length + 20) ≤ 4000) := fun z => c_15 ((nI_leI (a := T.length + 20) (b := 4000) (by omega) (by omega)).mpr z)
    refine lv_iconst (v := 0) hx hb d_M_feed_18 (by decide) ?_
    exact z_zret hx hb hr rfl hlocks hw (by refine ⟨congrArg some (congrArg Value.int ?_), ⟨ma, _, _, _, _, _, _, f1_mo, hTp.k kk1 (by omega), hTx.k kk1 (by omega), ⟨_, _, _, hSc.k kk1 (by omega) (by omega) (by omega)⟩, hSf.k kk1 (by omega) (by omega) (by omega), ⟨_, _, _, _, _, _, hNd.k kk1 (by omega) (by omega) (by omega)⟩, hOl.k kk1 (by omega) (by omega) (by omega), hOu.k kk1 (by omega)⟩, kk1.mono (fun y z => by unfold KMr; omega)⟩; rfl) (by decide) (by decide) d_M_feed_19

set_option maxHeartbeats 300000 in
set_option maxRecDepth 100000 in
theorem m_feed_yes (l : Launch) (g : z_G) (h : z_H) {mo : Nat} {T : List Nat} {S : Sch} {R : Rec} {O : List Nat} {a b9 c d e : Int32}  (hM : MAt g h mo T S R O) (hyes : T.length + 20 ≤ 4000) : z_C l y_M_feed prog_13_method_3_code 8 (Option.some Jvm.ClassFile.FieldType.boolean) 0 0 0 0 g [.ref mo, .int a, .int b9, .int c, .int d, .int e] h (fun x h1 => MPt g h x (.int 1) h1 mo (oFeed T a b9 c d e) S R O) := by
  refine z_C.of (by decide) (Nat.le_of_ble_eq_true rfl) (fun pg en s m below meth cd A ls hx hb hml hr hts hown hlocks hnm hK hE hA hw hl => ?_)
  have hl : lv_has ls 8 [(0, .ref mo), (1, .int a), (2, .int b9), (3, .int c), (4, .int d), (5, .int e)] := hl
  obtain ⟨ma, cod, siz, ffl, fcl, at9, il, hmo, hTp, hTx, ⟨rw9, rf, lf, hSc⟩, hSf, ⟨nf, np, nr, ns, nv, tx, hNd⟩, hOl, hOu⟩ := id hM
  obtain ⟨ftp, htp, hT4, hTv⟩ := id hTp
  obtain ⟨fou, hou, hO6, hOv⟩ := id hOu
  have kk0 : z_K (fun y => y = 20 ∨ y = 21) h h := z_K.rf
  refine lv_aload_n hx hb d_M_feed_0 rfl (lv_at hl 0 rfl) ?_
  refine lv_iconst (v := 0) hx hb d_M_feed_1 (by decide) ?_
  refine z_putf (ty := .int) hx hb hts (z_lay i_M) t_M t_M_ok n_M hown hK hw hmo rfl 0 (by decide) (z_in k_771 rfl) (fun _ h9 => h9) rfl (by decide +kernel) rfl rfl (Nat.le_of_ble_eq_true rfl) d_M_feed_2 (fun H locs hw => ?_)
  obtain ⟨h1, hh1⟩ : ∃ x9, z_put h mo (20, 0) (.inr (11, mF ma 0 (nI T.length) siz (nI S.1) (nI (cc S)) ffl fcl (nI R.1) (nI (tbC R.2 R.1)) (nI O.length) at9 il)) = x9 := ⟨_, rfl⟩
  have hw : z_S g A s.heap h1 H locs := by rw [← hh1]; exact hw
  have f1_mo : h1 mo = some ((20, 0), .inr (11, mF ma 0 (nI T.length) siz (nI S.1) (nI (cc S)) ffl fcl (nI R.1) (nI (tbC R.2 R.1)) (nI O.length) at9 il)) := by rw [← hh1]; exact z_put_eq
  have f1_ma_0 : h1 (ma 0) = some ((21, 0), .inl (g.2.1 1, 4000, .inl ftp)) := by rw [← hh1]; exact z_keep hmo htp (z_t1 (by decide))
  have kk1 : z_K (fun y => y = 20 ∨ y = 21) h h1 := kk0.tr (by rw [← hh1]; exact z_K.put hmo (by first | decide | simp | omega))
  refine lv_aload_n hx hb d_M_feed_5 rfl (lv_at hl 0 rfl) ?_
  refine z_get hx hb hts (z_lay i_M) hown hK hw f1_mo rfl 3 (by decide) (z_in k_774 rfl) (fun _ h9 => h9) rfl d_M_feed_6 ?_
  refine lv_bipush (v := 20) hx hb d_M_feed_9 (by decide) ?_
  refine lv_iadd hx hb d_M_feed_11 ?_
  refine z_topi (y := nI (T.length + 20)) (nI_add T.length 20) ?_
  refine lv_sipush (v := 4000) hx hb d_M_feed_12 (by decide) ?_
  refine lv_icmp_le (tgt := 20) hx hb d_M_feed_15 (by decide) (fun c_15 => ?_) (fun c_15 => ?_)
  · -- 15: True
    have c_15 : (T.length + 20) ≤ 4000 := (nI_leI (a := T.length + 20) (b := 4000) (by omega) (by omega)).mp c_15
    refine lv_iconst (v := 0) hx hb d_M_feed_20 (by decide) ?_
    refine lv_istore (lv' := [(6, .int 0), (0, .ref mo), (1, .int a), (2, .int b9), (3, .int c), (4, .int d), (5, .int e)]) hx hb d_M_feed_21 hl (by decide) rfl (fun ls hl => ?_)
    have loop_23 : ∀ (fuel : Nat) (k : Nat) (f3 : Nat → Int32) (hL : z_H) (H : Heap) (locs : List Loc) (ls : Array Slot) (L23_mo : hL mo = some ((20, 0), .inr (11, mF ma 0 (nI T.length) siz (nI S.1) (nI (cc S)) ffl fcl (nI R.1) (nI (tbC R.2 R.1)) (nI O.length) at9 il))) (L23_ma_0 : hL (ma 0) = some ((21, 0), .inl (g.2.1 1, 4000, .inl f3))) (hk9 : k ≤ 20) (hfe : ∀ j, j < T.length + k → f3 j = nI ((oFeed T a b9 c d e).getD j 0)) (kkF : z_K (fun y => y = 20 ∨ y = 21) h hL), (20 - k) < fuel → z_S g A s.heap hL H locs → lv_has ls 8 [(0, .ref mo), (1, .int a), (2, .int b9), (3, .int c), (4, .int d), (5, .int e), (6, .int (nI k))] → W pg l en { frames := 0, cells := 0, slots := 0, locals := 0 } s m [.ref mo, .int a, .int b9, .int c, .int d, .int e].toArray below meth cd H locs 0 0 (MQ below (z_Q g A (fun x h1 => MPt g h x (.int 1) h1 mo (oFeed T a b9 c d e) S R O)) [.ref mo, .int a, .int b9, .int c, .int d, .int e].toArray s 0 0 A) (F0 m 23 ls []) := by
      intro fuel
      induction fuel with
      | zero => intro k f3 hL H locs ls L23_mo L23_ma_0 hk9 hfe kkF hm; exact absurd hm (Nat.not_lt_zero _)
      | succ fuel ih_23 =>
        intro k f3 hL H locs ls L23_mo L23_ma_0 hk9 hfe kkF hm hw hl
        refine lv_iload hx hb d_M_feed_23 (lv_at hl 6 rfl) ?_
        refine lv_bipush (v := 20) hx hb d_M_feed_25 (by decide) ?_
        refine lv_icmp_ge (tgt := 113) hx hb d_M_feed_27 (by decide) (fun c_27 => ?_) (fun c_27 => ?_)
        · -- 27: True
          have c_27 : 20 ≤ k := (nI_leI (a := 20) (b := k) (by omega) (by omega)).mp c_27
          refine lv_aload_n hx hb d_M_feed_113 rfl (lv_at hl 0 rfl) ?_
          refine lv_dup hx hb d_M_feed_114 rfl ?_
          refine z_get hx hb hts (z_lay i_M) hown hK hw L23_mo rfl 3 (by decide) (z_in k_774 rfl) (fun _ h9 => h9) rfl d_M_feed_115 ?_
          refine lv_bipush (v := 20) hx hb d_M_feed_118 (by decide) ?_
          refine lv_iadd hx hb d_M_feed_120 ?_
          refine z_topi (y := nI (T.length + 20)) (nI_add T.length 20) ?_
          refine z_putf (ty := .int) hx hb hts (z_lay i_M) t_M t_M_ok n_M hown hK hw L23_mo rfl 3 (by decide) (z_in k_774 rfl) (fun _ h9 => h9) rfl (by decide +kernel) rfl rfl (Nat.le_of_ble_eq_true rfl) d_M_feed_121 (fun H locs hw => ?_)
          obtain ⟨h2, hh2⟩ : ∃ x9, z_put hL mo (20, 0) (.inr (11, mF ma 0 (nI (T.length + 20)) siz (nI S.1) (nI (cc S)) ffl fcl (nI R.1) (nI (tbC R.2 R.1)) (nI O.length) at9 il)) = x9 := ⟨_, rfl⟩
          have hw : z_S g A s.heap h2 H locs := by rw [← hh2]; exact hw
          have f2_mo : h2 mo = some ((20, 0), .inr (11, mF ma 0 (nI (T.length + 20)) siz (nI S.1) (nI (cc S)) ffl fcl (nI R.1) (nI (tbC R.2 R.1)) (nI O.length) at9 il)) := by rw [← hh2]; exact z_put_eq
          have f2_ma_0 : h2 (ma 0) = some ((21, 0), .inl (g.2.1 1, 4000, .inl f3)) := by rw [← hh2]; exact z_keep L23_mo L23_ma_0 (z_t1 (by decide))
          have kk2 : z_K (fun y => y = 20 ∨ y = 21) h h2 := kkF.tr (by rw [← hh2]; exact z_K.put L23_mo (by first | decide | simp | omega))
          have fn3 : h2 mo = some ((20, 0), .inr (11, mF ma 0 (nI ((oFeed T a b9 c d e).length)) siz (nI S.1) (nI (cc S)) ffl fcl (nI R.1) (nI (tbC R.2 R.1)) (nI O.length) at9 il)) := by rw [oFeed_len]; exact f2_mo
          have ek20 : k = 20 := by omega
          refine lv_iconst (v := 1) hx hb d_M_feed_124 (by decide) ?_
          exact z_zret hx hb hr rfl hlocks hw ⟨rfl, ⟨ma, _, _, _, _, _, _, fn3, ⟨f3, f2_ma_0, by rw [oFeed_len]; exact hyes, fun j hj => ⟨oFeed_lt T a b9 c d e (fun j hj => (hTv j hj).1) hj, hfe j (by rw [oFeed_len] at hj; omega)⟩⟩, hTx.k kk2 (by omega), ⟨_, _, _, hSc.k kk2 (by omega) (by omega) (by omega)⟩, hSf.k kk2 (by omega) (by omega) (by omega), ⟨_, _, _, _, _, _, hNd.k kk2 (by omega) (by omega) (by omega)⟩, hOl.k kk2 (by omega) (by omega) (by omega), hOu.k kk2 (by omega)⟩, kk2.mono (fun y z => by unfold KMr; omega)⟩ (by decide) (by decide) d_M_feed_125
        · -- 27: False
          have c_27 : ¬ (20 ≤ k) := fun z => c_27 ((nI_leI (a := 20) (b := k) (by omega) (by omega)).mpr z)
          refine lv_iload hx hb d_M_feed_30 (lv_at hl 6 rfl) ?_
          refine lv_iconst (v := 4) hx hb d_M_feed_32 (by decide) ?_
          refine lv_icmp_ge (tgt := 40) hx hb d_M_feed_33 (by decide) (fun c_33 => ?_) (fun c_33 => ?_)
          · -- 33: True
            have c_33 : 4 ≤ k := (nI_leI (a := 4) (b := k) (by omega) (by omega)).mp c_33
            refine lv_iload hx hb d_M_feed_40 (lv_at hl 6 rfl) ?_
            refine lv_bipush (v := 8) hx hb d_M_feed_42 (by decide) ?_
            refine lv_icmp_ge (tgt := 51) hx hb d_M_feed_44 (by decide) (fun c_44 => ?_) (fun c_44 => ?_)
            · -- 44: True
              have c_44 : 8 ≤ k := (nI_leI (a := 8) (b := k) (by omega) (by omega)).mp c_44
              refine lv_iload hx hb d_M_feed_51 (lv_at hl 6 rfl) ?_
              refine lv_bipush (v := 12) hx hb d_M_feed_53 (by decide) ?_
              refine lv_icmp_ge (tgt := 62) hx hb d_M_feed_55 (by decide) (fun c_55 => ?_) (fun c_55 => ?_)
              · -- 55: True
                have c_55 : 12 ≤ k := (nI_leI (a := 12) (b := k) (by omega) (by omega)).mp c_55
                refine lv_iload hx hb d_M_feed_62 (lv_at hl 6 rfl) ?_
                refine lv_bipush (v := 16) hx hb d_M_feed_64 (by decide) ?_
                refine lv_icmp_ge (tgt := 74) hx hb d_M_feed_66 (by decide) (fun c_66 => ?_) (fun c_66 => ?_)
                · -- 66: True
                  have c_66 : 16 ≤ k := (nI_leI (a := 16) (b := k) (by omega) (by omega)).mp c_66
                  refine lv_iload hx hb d_M_feed_74 (lv_at hl 5 rfl) ?_
                  refine lv_istore (lv' := [(7, .int e), (0, .ref mo), (1, .int a), (2, .int b9), (3, .int c), (4, .int d), (5, .int e), (6, .int (nI k))]) hx hb d_M_feed_76 hl (by decide) rfl (fun ls hl => ?_)
                  refine lv_aload_n hx hb d_M_feed_78 rfl (lv_at hl 1 rfl) ?_
                  refine z_get hx hb hts (z_lay i_M) hown hK hw L23_mo rfl 1 (by decide) (z_in k_772 rfl) (fun _ h9 => h9) rfl d_M_feed_79 ?_
                  refine lv_aload_n hx hb d_M_feed_82 rfl (lv_at hl 1 rfl) ?_
                  refine z_get hx hb hts (z_lay i_M) hown hK hw L23_mo rfl 3 (by decide) (z_in k_774 rfl) (fun _ h9 => h9) rfl d_M_feed_83 ?_
                  refine lv_iload hx hb d_M_feed_86 (lv_at hl 7 rfl) ?_
                  refine lv_iadd hx hb d_M_feed_88 ?_
                  refine z_topi (y := nI (T.length + k)) (nI_add T.length k) ?_
                  refine lv_iload hx hb d_M_feed_89 (lv_at hl 0 rfl) ?_
                  refine lv_bipush (v := 24) hx hb d_M_feed_91 (by decide) ?_
                  refine lv_bipush (v := 8) hx hb d_M_feed_93 (by decide) ?_
                  refine lv_iload hx hb d_M_feed_95 (lv_at hl 7 rfl) ?_
                  refine lv_iconst (v := 4) hx hb d_M_feed_97 (by decide) ?_
                  refine lv_irem hx hb d_M_feed_98 (by decide) ?_
                  refine z_topi (y := nI (k % 4)) (pk_rem (a := k) (d := 4) (by omega) (by omega) (by omega)) ?_
                  refine lv_imul hx hb d_M_feed_99 ?_
                  refine z_topi (y := nI (8 * (k % 4))) (pk_mul 8 (k % 4)) ?_
                  refine lv_isub hx hb d_M_feed_100 ?_
                  refine z_topi (y := nI (24 - (8 * (k % 4)))) (pk_sub (a := 24) (b := 8 * (k % 4)) (by omega)) ?_
                  refine lv_ishr hx hb d_M_feed_101 ?_
                  refine lv_sipush (v := 255) hx hb d_M_feed_102 (by decide) ?_
                  refine lv_iand hx hb d_M_feed_105 ?_
                  refine z_topi (y := nI (by4 e (k % 4))) (by4_i _ _) ?_
                  refine z_iast hx hb hK hw L23_ma_0 1 rfl (vp_in_nI (by omega) (by omega)) d_M_feed_106 (fun H locs hw => ?_)
                  rw [nI_clamp (by omega)] at hw
                  obtain ⟨h4, hh4⟩ : ∃ x9, z_put hL (ma 0) (21, 0) (.inl (g.2.1 1, 4000, .inl (upd f3 (T.length + k) (nI (by4 e (k % 4)))))) = x9 := ⟨_, rfl⟩
                  have hw : z_S g A s.heap h4 H locs := by rw [← hh4]; exact hw
                  have f4_mo : h4 mo = some ((20, 0), .inr (11, mF ma 0 (nI T.length) siz (nI S.1) (nI (cc S)) ffl fcl (nI R.1) (nI (tbC R.2 R.1)) (nI O.length) at9 il)) := by rw [← hh4]; exact z_keep L23_ma_0 L23_mo (z_t1 (by decide))
                  have f4_ma_0 : h4 (ma 0) = some ((21, 0), .inl (g.2.1 1, 4000, .inl (upd f3 (T.length + k) (nI (by4 e (k % 4)))))) := by rw [← hh4]; exact z_put_eq
                  have kk4 : z_K (fun y => y = 20 ∨ y = 21) h h4 := kkF.tr (by rw [← hh4]; exact z_K.put L23_ma_0 (by first | decide | simp | omega))
                  refine lv_iinc (v := nI (k + 1)) (lv' := [(6, .int (nI (k + 1))), (7, .int e), (0, .ref mo), (1, .int a), (2, .int b9), (3, .int c), (4, .int d), (5, .int e)]) hx hb d_M_feed_107 hl (k := 7) rfl (nI_1 k) (by decide) rfl (fun ls hl => ?_)
                  refine lv_goto (tgt := 23) hx hb d_M_feed_110 (by decide) ?_
                  refine ih_23 (k + 1) (upd f3 (T.length + k) (nI (by4 e (k % 4)))) h4 _ _ _ f4_mo f4_ma_0 (by omega) (fun j hj => (show j < T.length + k ∨ j = T.length + k by omega).elim (fun z => by rw [pk_un (by omega)]; exact hfe j z) (fun z => by rw [z, pk_us, oFeed_get T a b9 c d e (by omega), if_neg (show ¬ k < 4 by omega), if_neg (show ¬ k < 8 by omega), if_neg (show ¬ k < 12 by omega), if_neg (show ¬ k < 16 by omega)])) kk4 ?_ hw (lv_sub hl [2, 3, 4, 5, 6, 7, 0] rfl)
                  omega
                · -- 66: False
                  have c_66 : ¬ (16 ≤ k) := fun z => c_66 ((nI_leI (a := 16) (b := k) (by omega) (by omega)).mpr z)
                  refine lv_iload hx hb d_M_feed_69 (lv_at hl 4 rfl) ?_
                  refine lv_goto (tgt := 76) hx hb d_M_feed_71 (by decide) ?_
                  refine lv_istore (lv' := [(7, .int d), (0, .ref mo), (1, .int a), (2, .int b9), (3, .int c), (4, .int d), (5, .int e), (6, .int (nI k))]) hx hb d_M_feed_76 hl (by decide) rfl (fun ls hl => ?_)
                  refine lv_aload_n hx hb d_M_feed_78 rfl (lv_at hl 1 rfl) ?_
                  refine z_get hx hb hts (z_lay i_M) hown hK hw L23_mo rfl 1 (by decide) (z_in k_772 rfl) (fun _ h9 => h9) rfl d_M_feed_79 ?_
                  refine lv_aload_n hx hb d_M_feed_82 rfl (lv_at hl 1 rfl) ?_
                  refine z_get hx hb hts (z_lay i_M) hown hK hw L23_mo rfl 3 (by decide) (z_in k_774 rfl) (fun _ h9 => h9) rfl d_M_feed_83 ?_
                  refine lv_iload hx hb d_M_feed_86 (lv_at hl 7 rfl) ?_
                  refine lv_iadd hx hb d_M_feed_88 ?_
                  refine z_topi (y := nI (T.length + k)) (nI_add T.length k) ?_
                  refine lv_iload hx hb d_M_feed_89 (lv_at hl 0 rfl) ?_
                  refine lv_bipush (v := 24) hx hb d_M_feed_91 (by decide) ?_
                  refine lv_bipush (v := 8) hx hb d_M_feed_93 (by decide) ?_
                  refine lv_iload hx hb d_M_feed_95 (lv_at hl 7 rfl) ?_
                  refine lv_iconst (v := 4) hx hb d_M_feed_97 (by decide) ?_
                  refine lv_irem hx hb d_M_feed_98 (by decide) ?_
                  refine z_topi (y := nI (k % 4)) (pk_rem (a := k) (d := 4) (by omega) (by omega) (by omega)) ?_
                  refine lv_imul hx hb d_M_feed_99 ?_
                  refine z_topi (y := nI (8 * (k % 4))) (pk_mul 8 (k % 4)) ?_
                  refine lv_isub hx hb d_M_feed_100 ?_
                  refine z_topi (y := nI (24 - (8 * (k % 4)))) (pk_sub (a := 24) (b := 8 * (k % 4)) (by omega)) ?_
                  refine lv_ishr hx hb d_M_feed_101 ?_
                  refine lv_sipush (v := 255) hx hb d_M_feed_102 (by decide) ?_
                  refine lv_iand hx hb d_M_feed_105 ?_
                  refine z_topi (y := nI (by4 d (k % 4))) (by4_i _ _) ?_
                  refine z_iast hx hb hK hw L23_ma_0 1 rfl (vp_in_nI (by omega) (by omega)) d_M_feed_106 (fun H locs hw => ?_)
                  rw [nI_clamp (by omega)] at hw
                  obtain ⟨h5, hh5⟩ : ∃ x9, z_put hL (ma 0) (21, 0) (.inl (g.2.1 1, 4000, .inl (upd f3 (T.length + k) (nI (by4 d (k % 4)))))) = x9 := ⟨_, rfl⟩
                  have hw : z_S g A s.heap h5 H locs := by rw [← hh5]; exact hw
                  have f5_mo : h5 mo = some ((20, 0), .inr (11, mF ma 0 (nI T.length) siz (nI S.1) (nI (cc S)) ffl fcl (nI R.1) (nI (tbC R.2 R.1)) (nI O.length) at9 il)) := by rw [← hh5]; exact z_keep L23_ma_0 L23_mo (z_t1 (by decide))
                  have f5_ma_0 : h5 (ma 0) = some ((21, 0), .inl (g.2.1 1, 4000, .inl (upd f3 (T.length + k) (nI (by4 d (k % 4)))))) := by rw [← hh5]; exact z_put_eq
                  have kk5 : z_K (fun y => y = 20 ∨ y = 21) h h5 := kkF.tr (by rw [← hh5]; exact z_K.put L23_ma_0 (by first | decide | simp | omega))
                  refine lv_iinc (v := nI (k + 1)) (lv' := [(6, .int (nI (k + 1))), (7, .int d), (0, .ref mo), (1, .int a), (2, .int b9), (3, .int c), (4, .int d), (5, .int e)]) hx hb d_M_feed_107 hl (k := 7) rfl (nI_1 k) (by decide) rfl (fun ls hl => ?_)
                  refine lv_goto (tgt := 23) hx hb d_M_feed_110 (by decide) ?_
                  refine ih_23 (k + 1) (upd f3 (T.length + k) (nI (by4 d (k % 4)))) h5 _ _ _ f5_mo f5_ma_0 (by omega) (fun j hj => (show j < T.length + k ∨ j = T.length + k by omega).elim (fun z => by rw [pk_un (by omega)]; exact hfe j z) (fun z => by rw [z, pk_us, oFeed_get T a b9 c d e (by omega), if_neg (show ¬ k < 4 by omega), if_neg (show ¬ k < 8 by omega), if_neg (show ¬ k < 12 by omega), if_pos (show k < 16 by omega)])) kk5 ?_ hw (lv_sub hl [2, 3, 4, 5, 6, 7, 0] rfl)
                  omega
              · -- 55: False
                have c_55 : ¬ (12 ≤ k) := fun z => c_55 ((nI_leI (a := 12) (b := k) (by omega) (by omega)).mpr z)
                refine lv_iload_n hx hb d_M_feed_58 rfl (lv_at hl 3 rfl) ?_
                refine lv_goto (tgt := 76) hx hb d_M_feed_59 (by decide) ?_
                refine lv_istore (lv' := [(7, .int c), (0, .ref mo), (1, .int a), (2, .int b9), (3, .int c), (4, .int d), (5, .int e), (6, .int (nI k))]) hx hb d_M_feed_76 hl (by decide) rfl (fun ls hl => ?_)
                refine lv_aload_n hx hb d_M_feed_78 rfl (lv_at hl 1 rfl) ?_
                refine z_get hx hb hts (z_lay i_M) hown hK hw L23_mo rfl 1 (by decide) (z_in k_772 rfl) (fun _ h9 => h9) rfl d_M_feed_79 ?_
                refine lv_aload_n hx hb d_M_feed_82 rfl (lv_at hl 1 rfl) ?_
                refine z_get hx hb hts (z_lay i_M) hown hK hw L23_mo rfl 3 (by decide) (z_in k_774 rfl) (fun _ h9 => h9) rfl d_M_feed_83 ?_
                refine lv_iload hx hb d_M_feed_86 (lv_at hl 7 rfl) ?_
                refine lv_iadd hx hb d_M_feed_88 ?_
                refine z_topi (y := nI (T.length + k)) (nI_add T.length k) ?_
                refine lv_iload hx hb d_M_feed_89 (lv_at hl 0 rfl) ?_
                refine lv_bipush (v := 24) hx hb d_M_feed_91 (by decide) ?_
                refine lv_bipush (v := 8) hx hb d_M_feed_93 (by decide) ?_
                refine lv_iload hx hb d_M_feed_95 (lv_at hl 7 rfl) ?_
                refine lv_iconst (v := 4) hx hb d_M_feed_97 (by decide) ?_
                refine lv_irem hx hb d_M_feed_98 (by decide) ?_
                refine z_topi (y := nI (k % 4)) (pk_rem (a := k) (d := 4) (by omega) (by omega) (by omega)) ?_
                refine lv_imul hx hb d_M_feed_99 ?_
                refine z_topi (y := nI (8 * (k % 4))) (pk_mul 8 (k % 4)) ?_
                refine lv_isub hx hb d_M_feed_100 ?_
                refine z_topi (y := nI (24 - (8 * (k % 4)))) (pk_sub (a := 24) (b := 8 * (k % 4)) (by omega)) ?_
                refine lv_ishr hx hb d_M_feed_101 ?_
                refine lv_sipush (v := 255) hx hb d_M_feed_102 (by decide) ?_
                refine lv_iand hx hb d_M_feed_105 ?_
                refine z_topi (y := nI (by4 c (k % 4))) (by4_i _ _) ?_
                refine z_iast hx hb hK hw L23_ma_0 1 rfl (vp_in_nI (by omega) (by omega)) d_M_feed_106 (fun H locs hw => ?_)
                rw [nI_clamp (by omega)] at hw
                obtain ⟨h6, hh6⟩ : ∃ x9, z_put hL (ma 0) (21, 0) (.inl (g.2.1 1, 4000, .inl (upd f3 (T.length + k) (nI (by4 c (k % 4)))))) = x9 := ⟨_, rfl⟩
                have hw : z_S g A s.heap h6 H locs := by rw [← hh6]; exact hw
                have f6_mo : h6 mo = some ((20, 0), .inr (11, mF ma 0 (nI T.length) siz (nI S.1) (nI (cc S)) ffl fcl (nI R.1) (nI (tbC R.2 R.1)) (nI O.length) at9 il)) := by rw [← hh6]; exact z_keep L23_ma_0 L23_mo (z_t1 (by decide))
                have f6_ma_0 : h6 (ma 0) = some ((21, 0), .inl (g.2.1 1, 4000, .inl (upd f3 (T.length + k) (nI (by4 c (k % 4)))))) := by rw [← hh6]; exact z_put_eq
                have kk6 : z_K (fun y => y = 20 ∨ y = 21) h h6 := kkF.tr (by rw [← hh6]; exact z_K.put L23_ma_0 (by first | decide | simp | omega))
                refine lv_iinc (v := nI (k + 1)) (lv' := [(6, .int (nI (k + 1))), (7, .int c), (0, .ref mo), (1, .int a), (2, .int b9), (3, .int c), (4, .int d), (5, .int e)]) hx hb d_M_feed_107 hl (k := 7) rfl (nI_1 k) (by decide) rfl (fun ls hl => ?_)
                refine lv_goto (tgt := 23) hx hb d_M_feed_110 (by decide) ?_
                refine ih_23 (k + 1) (upd f3 (T.length + k) (nI (by4 c (k % 4)))) h6 _ _ _ f6_mo f6_ma_0 (by omega) (fun j hj => (show j < T.length + k ∨ j = T.length + k by omega).elim (fun z => by rw [pk_un (by omega)]; exact hfe j z) (fun z => by rw [z, pk_us, oFeed_get T a b9 c d e (by omega), if_neg (show ¬ k < 4 by omega), if_neg (show ¬ k < 8 by omega), if_pos (show k < 12 by omega)])) kk6 ?_ hw (lv_sub hl [2, 3, 4, 5, 6, 7, 0] rfl)
                omega
            · -- 44: False
              have c_44 : ¬ (8 ≤ k) := fun z => c_44 ((nI_leI (a := 8) (b := k) (by omega) (by omega)).mpr z)
              refine lv_iload_n hx hb d_M_feed_47 rfl (lv_at hl 2 rfl) ?_
              refine lv_goto (tgt := 76) hx hb d_M_feed_48 (by decide) ?_
              refine lv_istore (lv' := [(7, .int b9), (0, .ref mo), (1, .int a), (2, .int b9), (3, .int c), (4, .int d), (5, .int e), (6, .int (nI k))]) hx hb d_M_feed_76 hl (by decide) rfl (fun ls hl => ?_)
              refine lv_aload_n hx hb d_M_feed_78 rfl (lv_at hl 1 rfl) ?_
              refine z_get hx hb hts (z_lay i_M) hown hK hw L23_mo rfl 1 (by decide) (z_in k_772 rfl) (fun _ h9 => h9) rfl d_M_feed_79 ?_
              refine lv_aload_n hx hb d_M_feed_82 rfl (lv_at hl 1 rfl) ?_
              refine z_get hx hb hts (z_lay i_M) hown hK hw L23_mo rfl 3 (by decide) (z_in k_774 rfl) (fun _ h9 => h9) rfl d_M_feed_83 ?_
              refine lv_iload hx hb d_M_feed_86 (lv_at hl 7 rfl) ?_
              refine lv_iadd hx hb d_M_feed_88 ?_
              refine z_topi (y := nI (T.length + k)) (nI_add T.length k) ?_
              refine lv_iload hx hb d_M_feed_89 (lv_at hl 0 rfl) ?_
              refine lv_bipush (v := 24) hx hb d_M_feed_91 (by decide) ?_
              refine lv_bipush (v := 8) hx hb d_M_feed_93 (by decide) ?_
              refine lv_iload hx hb d_M_feed_95 (lv_at hl 7 rfl) ?_
              refine lv_iconst (v := 4) hx hb d_M_feed_97 (by decide) ?_
              refine lv_irem hx hb d_M_feed_98 (by decide) ?_
              refine z_topi (y := nI (k % 4)) (pk_rem (a := k) (d := 4) (by omega) (by omega) (by omega)) ?_
              refine lv_imul hx hb d_M_feed_99 ?_
              refine z_topi (y := nI (8 * (k % 4))) (pk_mul 8 (k % 4)) ?_
              refine lv_isub hx hb d_M_feed_100 ?_
              refine z_topi (y := nI (24 - (8 * (k % 4)))) (pk_sub (a := 24) (b := 8 * (k % 4)) (by omega)) ?_
              refine lv_ishr hx hb d_M_feed_101 ?_
              refine lv_sipush (v := 255) hx hb d_M_feed_102 (by decide) ?_
              refine lv_iand hx hb d_M_feed_105 ?_
              refine z_topi (y := nI (by4 b9 (k % 4))) (by4_i _ _) ?_
              refine z_iast hx hb hK hw L23_ma_0 1 rfl (vp_in_nI (by omega) (by omega)) d_M_feed_106 (fun H locs hw => ?_)
              rw [nI_clamp (by omega)] at hw
              obtain ⟨h7, hh7⟩ : ∃ x9, z_put hL (ma 0) (21, 0) (.inl (g.2.1 1, 4000, .inl (upd f3 (T.length + k) (nI (by4 b9 (k % 4)))))) = x9 := ⟨_, rfl⟩
              have hw : z_S g A s.heap h7 H locs := by rw [← hh7]; exact hw
              have f7_mo : h7 mo = some ((20, 0), .inr (11, mF ma 0 (nI T.length) siz (nI S.1) (nI (cc S)) ffl fcl (nI R.1) (nI (tbC R.2 R.1)) (nI O.length) at9 il)) := by rw [← hh7]; exact z_keep L23_ma_0 L23_mo (z_t1 (by decide))
              have f7_ma_0 : h7 (ma 0) = some ((21, 0), .inl (g.2.1 1, 4000, .inl (upd f3 (T.length + k) (nI (by4 b9 (k % 4)))))) := by rw [← hh7]; exact z_put_eq
              have kk7 : z_K (fun y => y = 20 ∨ y = 21) h h7 := kkF.tr (by rw [← hh7]; exact z_K.put L23_ma_0 (by first | decide | simp | omega))
              refine lv_iinc (v := nI (k + 1)) (lv' := [(6, .int (nI (k + 1))), (7, .int b9), (0, .ref mo), (1, .int a), (2, .int b9), (3, .int c), (4, .int d), (5, .int e)]) hx hb d_M_feed_107 hl (k := 7) rfl (nI_1 k) (by decide) rfl (fun ls hl => ?_)
              refine lv_goto (tgt := 23) hx hb d_M_feed_110 (by decide) ?_
              refine ih_23 (k + 1) (upd f3 (T.length + k) (nI (by4 b9 (k % 4)))) h7 _ _ _ f7_mo f7_ma_0 (by omega) (fun j hj => (show j < T.length + k ∨ j = T.length + k by omega).elim (fun z => by rw [pk_un (by omega)]; exact hfe j z) (fun z => by rw [z, pk_us, oFeed_get T a b9 c d e (by omega), if_neg (show ¬ k < 4 by omega), if_pos (show k < 8 by omega)])) kk7 ?_ hw (lv_sub hl [2, 3, 4, 5, 6, 7, 0] rfl)
              omega
          · -- 33: False
            have c_33 : ¬ (4 ≤ k) := fun z => c_33 ((nI_leI (a := 4) (b := k) (by omega) (by omega)).mpr z)
            refine lv_iload_n hx hb d_M_feed_36 rfl (lv_at hl 1 rfl) ?_
            refine lv_goto (tgt := 76) hx hb d_M_feed_37 (by decide) ?_
            refine lv_istore (lv' := [(7, .int a), (0, .ref mo), (1, .int a), (2, .int b9), (3, .int c), (4, .int d), (5, .int e), (6, .int (nI k))]) hx hb d_M_feed_76 hl (by decide) rfl (fun ls hl => ?_)
            refine lv_aload_n hx hb d_M_feed_78 rfl (lv_at hl 1 rfl) ?_
            refine z_get hx hb hts (z_lay i_M) hown hK hw L23_mo rfl 1 (by decide) (z_in k_772 rfl) (fun _ h9 => h9) rfl d_M_feed_79 ?_
            refine lv_aload_n hx hb d_M_feed_82 rfl (lv_at hl 1 rfl) ?_
            refine z_get hx hb hts (z_lay i_M) hown hK hw L23_mo rfl 3 (by decide) (z_in k_774 rfl) (fun _ h9 => h9) rfl d_M_feed_83 ?_
            refine lv_iload hx hb d_M_feed_86 (lv_at hl 7 rfl) ?_
            refine lv_iadd hx hb d_M_feed_88 ?_
            refine z_topi (y := nI (T.length + k)) (nI_add T.length k) ?_
            refine lv_iload hx hb d_M_feed_89 (lv_at hl 0 rfl) ?_
            refine lv_bipush (v := 24) hx hb d_M_feed_91 (by decide) ?_
            refine lv_bipush (v := 8) hx hb d_M_feed_93 (by decide) ?_
            refine lv_iload hx hb d_M_feed_95 (lv_at hl 7 rfl) ?_
            refine lv_iconst (v := 4) hx hb d_M_feed_97 (by decide) ?_
            refine lv_irem hx hb d_M_feed_98 (by decide) ?_
            refine z_topi (y := nI (k % 4)) (pk_rem (a := k) (d := 4) (by omega) (by omega) (by omega)) ?_
            refine lv_imul hx hb d_M_feed_99 ?_
            refine z_topi (y := nI (8 * (k % 4))) (pk_mul 8 (k % 4)) ?_
            refine lv_isub hx hb d_M_feed_100 ?_
            refine z_topi (y := nI (24 - (8 * (k % 4)))) (pk_sub (a := 24) (b := 8 * (k % 4)) (by omega)) ?_
            refine lv_ishr hx hb d_M_feed_101 ?_
            refine lv_sipush (v := 255) hx hb d_M_feed_102 (by decide) ?_
            refine lv_iand hx hb d_M_feed_105 ?_
            refine z_topi (y := nI (by4 a (k % 4))) (by4_i _ _) ?_
            refine z_iast hx hb hK hw L23_ma_0 1 rfl (vp_in_nI (by omega) (by omega)) d_M_feed_106 (fun H locs hw => ?_)
            rw [nI_clamp (by omega)] at hw
            obtain ⟨h8, hh8⟩ : ∃ x9, z_put hL (ma 0) (21, 0) (.inl (g.2.1 1, 4000, .inl (upd f3 (T.length + k) (nI (by4 a (k % 4)))))) = x9 := ⟨_, rfl⟩
            have hw : z_S g A s.heap h8 H locs := by rw [← hh8]; exact hw
            have f8_mo : h8 mo = some ((20, 0), .inr (11, mF ma 0 (nI T.length) siz (nI S.1) (nI (cc S)) ffl fcl (nI R.1) (nI (tbC R.2 R.1)) (nI O.length) at9 il)) := by rw [← hh8]; exact z_keep L23_ma_0 L23_mo (z_t1 (by decide))
            have f8_ma_0 : h8 (ma 0) = some ((21, 0), .inl (g.2.1 1, 4000, .inl (upd f3 (T.length + k) (nI (by4 a (k % 4)))))) := by rw [← hh8]; exact z_put_eq
            have kk8 : z_K (fun y => y = 20 ∨ y = 21) h h8 := kkF.tr (by rw [← hh8]; exact z_K.put L23_ma_0 (by first | decide | simp | omega))
            refine lv_iinc (v := nI (k + 1)) (lv' := [(6, .int (nI (k + 1))), (7, .int a), (0, .ref mo), (1, .int a), (2, .int b9), (3, .int c), (4, .int d), (5, .int e)]) hx hb d_M_feed_107 hl (k := 7) rfl (nI_1 k) (by decide) rfl (fun ls hl => ?_)
            refine lv_goto (tgt := 23) hx hb d_M_feed_110 (by decide) ?_
            refine ih_23 (k + 1) (upd f3 (T.length + k) (nI (by4 a (k % 4)))) h8 _ _ _ f8_mo f8_ma_0 (by omega) (fun j hj => (show j < T.length + k ∨ j = T.length + k by omega).elim (fun z => by rw [pk_un (by omega)]; exact hfe j z) (fun z => by rw [z, pk_us, oFeed_get T a b9 c d e (by omega), if_pos (show k < 4 by omega)])) kk8 ?_ hw (lv_sub hl [2, 3, 4, 5, 6, 7, 0] rfl)
            omega
    exact loop_23 (20 - 0 + 1) 0 ftp h1 _ _ _ f1_mo f1_ma_0 (Nat.zero_le _) (fun j hj => by rw [oFeed_old T a b9 c d e (show j < T.length from hj)]; exact (hTv j hj).2) kk1 (by omega) hw (lv_sub hl [1, 2, 3, 4, 5, 6, 0] rfl)
  · -- 15: False
    have c_15 : ¬ ((T.length + 20) ≤ 4000) := fun z => c_15 ((nI_leI (a := T.length + 20) (b := 4000) (by omega) (by omega)).mpr z)
    exact absurd hyes c_15

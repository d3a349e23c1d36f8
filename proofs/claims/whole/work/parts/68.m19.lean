theorem mayM_in {S : Sch} {R : Rec} {pa f : Int32} (h : mayM S R pa f = true) : isIx f S.1 = true ∧ isIx pa R.1 = true ∧ R.1 < 2000 := by
  unfold mayM at h
  simp only [Bool.and_eq_true, decide_eq_true_eq] at h
  exact ⟨h.1.1.1, h.1.1.2, h.1.2⟩

set_option maxHeartbeats 2000000 in
set_option maxRecDepth 100000 in
theorem m_add (l : Launch) (g : z_G) (h : z_H) {mo : Nat} {T : List Nat} {S : Sch} {R : Rec} {O : List Nat} {pa f9 : Int32} {v9 : Int64}  (hM : MAt g h mo T S R O) (hs8 : S.1 ≤ 128) (hR2 : R.1 ≤ 2000) (hR1 : 0 < R.1) (hpa : paOK R) (ho : ordOK S R) : z_C l y_M_add prog_13_method_39_code 5 (Option.some Jvm.ClassFile.FieldType.int) 2 100 0 0 g [.ref mo, .int pa, .int f9, .long v9] h (fun x h1 => MPt g h x (.int (oAdd S R pa f9 v9).1) h1 mo T S (oAdd S R pa f9 v9).2 O) := by
  refine z_C.of (by decide) (Nat.le_of_ble_eq_true rfl) (fun pg en s m below meth cd A ls hx hb hml hr hts hown hlocks hnm hK hE hA hw hl => ?_)
  have hl : lv_has ls 5 [(0, .ref mo), (1, .int pa), (2, .int f9), (3, .long v9)] := hl
  obtain ⟨ma, cod, siz, ffl, fcl, at9, il, hmo, hTp, hTx, ⟨rw9, rf, lf, hSc⟩, hSf, ⟨nf, np, nr, ns, nv, tx, hNd⟩, hOl, hOu⟩ := id hM
  obtain ⟨ftp, htp, hT4, hTv⟩ := id hTp
  obtain ⟨fou, hou, hO6, hOv⟩ := id hOu
  have hrw_1 : h (rw9 1) = some ((24, 1), .inl (g.2.1 1, 128, .inl (rf 1))) := hSc.2.1 1 (by omega)
  have kk0 : z_K (fun y => y = 20 ∨ y = 29 ∨ y = 30) h h := z_K.rf
  have sg_Nh : z_K (fun y => y = 20) h h := z_K.rf
  refine lv_aload_n hx hb d_M_add_0 rfl (lv_at hl 0 rfl) ?_
  refine lv_iconst (v := 0) hx hb d_M_add_1 (by decide) ?_
  refine z_putf (ty := .int) hx hb hts (z_lay i_M) t_M t_M_ok n_M hown hK hw hmo rfl 0 (by decide) (z_in k_771 rfl) (fun _ h9 => h9) rfl (by decide +kernel) rfl rfl (Nat.le_of_ble_eq_true rfl) d_M_add_2 (fun H locs hw => ?_)
  obtain ⟨h1, hh1⟩ : ∃ x9, z_put h mo (20, 0) (.inr (11, mF ma 0 (nI T.length) siz (nI S.1) (nI (cc S)) ffl fcl (nI R.1) (nI (tbC R.2 R.1)) (nI O.length) at9 il)) = x9 := ⟨_, rfl⟩
  have hw : z_S g A s.heap h1 H locs := by rw [← hh1]; exact hw
  have f1_mo : h1 mo = some ((20, 0), .inr (11, mF ma 0 (nI T.length) siz (nI S.1) (nI (cc S)) ffl fcl (nI R.1) (nI (tbC R.2 R.1)) (nI O.length) at9 il)) := by rw [← hh1]; exact z_put_eq
  have f1_ma_2 : h1 (ma 2) = some ((23, 0), .inl (g.2.1 5, 6, .inr (.inr (.inr (.inr (fun k => some (rw9 k))))))) := by rw [← hh1]; exact z_keep hmo hSc.1 (z_t1 (by decide))
  have f1_rw9_1 : h1 (rw9 1) = some ((24, 1), .inl (g.2.1 1, 128, .inl (rf 1))) := by rw [← hh1]; exact z_keep hmo hrw_1 (z_t1 (by decide))
  have kk1 : z_K (fun y => y = 20 ∨ y = 29 ∨ y = 30) h h1 := kk0.tr (by rw [← hh1]; exact z_K.put hmo (by first | decide | simp | omega))
  have sg_Nh1 : z_K (fun y => y = 20) h h1 := sg_Nh.tr (by rw [← hh1]; exact z_K.put hmo (by simp))
  refine lv_aload_n hx hb d_M_add_5 rfl (lv_at hl 0 rfl) ?_
  refine lv_iload_n hx hb d_M_add_6 rfl (lv_at hl 1 rfl) ?_
  refine lv_iload_n hx hb d_M_add_7 rfl (lv_at hl 2 rfl) ?_
  refine z_callV (n := 2) (As := [.int pa, .int f9]) (rest := []) ⟨hx, hb, hml, hown, hts⟩ (m_may l g h1 f1_mo (hSc.k sg_Nh1 (by omega) (by omega) (by omega)) (hNd.k sg_Nh1 (by omega) (by omega) (by omega)) hs8 hR2 hR1 hpa ho) (z_in k_1025 rfl) (z_in k_7 rfl) (z_in k_1022 rfl) (z_in k_1024 rfl) (z_in ks_49 rfl) (by decide +kernel) ⟨by first | exact Nat.le_of_ble_eq_true rfl | (dsimp only; omega) | omega, by first | exact Nat.le_of_ble_eq_true rfl | (dsimp only; omega) | omega⟩ hK hE hw hA rfl f1_mo rfl hl.1 (Nat.le_of_ble_eq_true rfl) d_M_add_8 ⟨by first | exact Nat.le_of_ble_eq_true rfl | (dsimp only; omega) | omega, by first | exact Nat.le_of_ble_eq_true rfl | (dsimp only; omega) | omega⟩ rfl (fun r9 h9 H locs hp hw => ?_)
  obtain ⟨r8, h8⟩ := hp
  subst r8
  subst h8
  refine W.eq (g2 := F0 m 11 ls [.int (zb (mayM S R pa f9))]) rfl ?_
  refine lv_if_eq (tgt := 46) hx hb d_M_add_11 (by decide) (fun c_11 => ?_) (fun c_11 => ?_)
  · -- 11: True
    have c_11 : (mayM S R pa f9) = false := zb_f c_11
    refine lv_iconst (v := (-1)) hx hb d_M_add_46 (by decide) ?_
    exact z_iret hx hb hr hlocks hw (by have eW : oAdd S R pa f9 v9 = (-1, R) := (by unfold oAdd; rw [okAdd_may, c_11, Bool.false_and]; rfl); refine ⟨by rw [eW], ?_, kk1.mono (fun y z => by unfold KMr; omega)⟩; rw [eW]; exact ⟨ma, _, _, _, _, _, _, f1_mo, hTp.k sg_Nh1 (by omega), hTx.k sg_Nh1 (by omega), ⟨_, _, _, hSc.k sg_Nh1 (by omega) (by omega) (by omega)⟩, hSf.k sg_Nh1 (by omega) (by omega) (by omega), ⟨_, _, _, _, _, _, hNd.k sg_Nh1 (by omega) (by omega) (by omega)⟩, hOl.k sg_Nh1 (by omega) (by omega) (by omega), hOu.k sg_Nh1 (by omega)⟩) (by decide) (by decide) d_M_add_47
  · -- 11: False
    have c_11 : (mayM S R pa f9) = true := zb_t c_11
    obtain ⟨mi1, mi2, mi3⟩ := mayM_in c_11
    obtain ⟨fi, hfi, ef⟩ := isIx_ex mi1 (by omega)
    have hl : lv_has ls 5 [(0, .ref mo), (1, .int pa), (2, .int (nI fi)), (3, .long v9)] := by rw [← ef]; exact hl
    refine lv_aload_n hx hb d_M_add_14 rfl (lv_at hl 0 rfl) ?_
    refine z_get hx hb hts (z_lay i_M) hown hK hw f1_mo rfl 5 (by decide) (z_in k_776 rfl) (fun _ h9 => h9) rfl d_M_add_15 ?_
    refine lv_iconst (v := 1) hx hb d_M_add_18 (by decide) ?_
    refine z_aldr hx hb hK hw f1_ma_2 5 rfl (by unfold vp_in; decide) d_M_add_19 ?_
    refine z_top (y := va_rf ((fun k => some (rw9 k)) 1)) (by rfl) ?_
    refine z_top (y := .ref (rw9 1)) (rfl) ?_
    refine lv_iload_n hx hb d_M_add_20 rfl (lv_at hl 2 rfl) ?_
    refine z_iald hx hb hK hw f1_rw9_1 1 rfl (vp_in_nI (by omega) (by omega)) d_M_add_21 ?_
    refine z_topi (y := (rf 1) fi) (by rw [nI_clamp (by omega)]) ?_
    refine z_top (y := .int (fTy (S.2 fi))) (by rw [(hSc.2.2.2 fi hfi).2.1]) ?_
    refine lv_iconst (v := 3) hx hb d_M_add_22 (by decide) ?_
    refine lv_icmp_eq (tgt := 46) hx hb d_M_add_23 (by decide) (fun c_23 => ?_) (fun c_23 => ?_)
    · -- 23: True
      refine lv_iconst (v := (-1)) hx hb d_M_add_46 (by decide) ?_
      exact z_iret hx hb hr hlocks hw (by have eW : oAdd S R pa f9 v9 = (-1, R) := (by unfold oAdd; rw [okAdd_may, ef, nI_clamp (by omega), decide_eq_true (show fTy (S.2 fi) = 3 from c_23), Bool.not_true, Bool.false_and, Bool.and_false]; rfl); refine ⟨by rw [eW], ?_, kk1.mono (fun y z => by unfold KMr; omega)⟩; rw [eW]; exact ⟨ma, _, _, _, _, _, _, f1_mo, hTp.k sg_Nh1 (by omega), hTx.k sg_Nh1 (by omega), ⟨_, _, _, hSc.k sg_Nh1 (by omega) (by omega) (by omega)⟩, hSf.k sg_Nh1 (by omega) (by omega) (by omega), ⟨_, _, _, _, _, _, hNd.k sg_Nh1 (by omega) (by omega) (by omega)⟩, hOl.k sg_Nh1 (by omega) (by omega) (by omega), hOu.k sg_Nh1 (by omega)⟩) (by decide) (by decide) d_M_add_47
    · -- 23: False
      refine lv_aload_n hx hb d_M_add_26 rfl (lv_at hl 0 rfl) ?_
      refine z_get hx hb hts (z_lay i_M) hown hK hw f1_mo rfl 5 (by decide) (z_in k_776 rfl) (fun _ h9 => h9) rfl d_M_add_27 ?_
      refine lv_iconst (v := 1) hx hb d_M_add_30 (by decide) ?_
      refine z_aldr hx hb hK hw f1_ma_2 5 rfl (by unfold vp_in; decide) d_M_add_31 ?_
      refine z_top (y := va_rf ((fun k => some (rw9 k)) 1)) (by rfl) ?_
      refine z_top (y := .ref (rw9 1)) (rfl) ?_
      refine lv_iload_n hx hb d_M_add_32 rfl (lv_at hl 2 rfl) ?_
      refine z_iald hx hb hK hw f1_rw9_1 1 rfl (vp_in_nI (by omega) (by omega)) d_M_add_33 ?_
      refine z_topi (y := (rf 1) fi) (by rw [nI_clamp (by omega)]) ?_
      refine z_top (y := .int (fTy (S.2 fi))) (by rw [(hSc.2.2.2 fi hfi).2.1]) ?_
      refine lv_iconst (v := 1) hx hb d_M_add_34 (by decide) ?_
      refine lv_icmp_ne (tgt := 48) hx hb d_M_add_35 (by decide) (fun c_35 => ?_) (fun c_35 => ?_)
      · -- 35: True
        refine lv_aload_n hx hb d_M_add_48 rfl (lv_at hl 0 rfl) ?_
        refine lv_iload_n hx hb d_M_add_49 rfl (lv_at hl 1 rfl) ?_
        refine lv_iload_n hx hb d_M_add_50 rfl (lv_at hl 2 rfl) ?_
        refine lv_aload_n hx hb d_M_add_51 rfl (lv_at hl 0 rfl) ?_
        refine z_get hx hb hts (z_lay i_M) hown hK hw f1_mo rfl 5 (by decide) (z_in k_776 rfl) (fun _ h9 => h9) rfl d_M_add_52 ?_
        refine lv_iconst (v := 1) hx hb d_M_add_55 (by decide) ?_
        refine z_aldr hx hb hK hw f1_ma_2 5 rfl (by unfold vp_in; decide) d_M_add_56 ?_
        refine z_top (y := va_rf ((fun k => some (rw9 k)) 1)) (by rfl) ?_
        refine z_top (y := .ref (rw9 1)) (rfl) ?_
        refine lv_iload_n hx hb d_M_add_57 rfl (lv_at hl 2 rfl) ?_
        refine z_iald hx hb hK hw f1_rw9_1 1 rfl (vp_in_nI (by omega) (by omega)) d_M_add_58 ?_
        refine z_topi (y := (rf 1) fi) (by rw [nI_clamp (by omega)]) ?_
        refine z_top (y := .int (fTy (S.2 fi))) (by rw [(hSc.2.2.2 fi hfi).2.1]) ?_
        refine lv_iconst (v := 4) hx hb d_M_add_59 (by decide) ?_
        refine lv_icmp_ne (tgt := 67) hx hb d_M_add_60 (by decide) (fun c_60 => ?_) (fun c_60 => ?_)
        · -- 60: True
          refine lv_aload_n hx hb d_M_add_67 rfl (lv_at hl 0 rfl) ?_
          refine z_get hx hb hts (z_lay i_M) hown hK hw f1_mo rfl 5 (by decide) (z_in k_776 rfl) (fun _ h9 => h9) rfl d_M_add_68 ?_
          refine lv_iconst (v := 1) hx hb d_M_add_71 (by decide) ?_
          refine z_aldr hx hb hK hw f1_ma_2 5 rfl (by unfold vp_in; decide) d_M_add_72 ?_
          refine z_top (y := va_rf ((fun k => some (rw9 k)) 1)) (by rfl) ?_
          refine z_top (y := .ref (rw9 1)) (rfl) ?_
          refine lv_iload_n hx hb d_M_add_73 rfl (lv_at hl 2 rfl) ?_
          refine z_iald hx hb hK hw f1_rw9_1 1 rfl (vp_in_nI (by omega) (by omega)) d_M_add_74 ?_
          refine z_topi (y := (rf 1) fi) (by rw [nI_clamp (by omega)]) ?_
          refine z_top (y := .int (fTy (S.2 fi))) (by rw [(hSc.2.2.2 fi hfi).2.1]) ?_
          refine lv_if_ne (tgt := 92) hx hb d_M_add_75 (by decide) (fun c_75 => ?_) (fun c_75 => ?_)
          · -- 75: True
            refine lv_lload_n hx hb d_M_add_92 rfl (lv_at hl 3 rfl) ?_
            have hN2 := hNd.k sg_Nh1 (by omega) (by omega) (by omega)
            refine z_callV (n := 3) (As := [.int pa, .int (nI fi), .long v9]) (rest := []) ⟨hx, hb, hml, hown, hts⟩ (m_node l g h1 f1_mo hN2 (by omega)) (z_in k_991 rfl) (z_in k_7 rfl) (z_in k_988 rfl) (z_in k_990 rfl) (z_in ks_44 rfl) (by decide +kernel) ⟨by first | exact Nat.le_of_ble_eq_true rfl | (dsimp only; omega) | omega, by first | exact Nat.le_of_ble_eq_true rfl | (dsimp only; omega) | omega⟩ hK hE hw hA rfl f1_mo rfl hl.1 (Nat.le_of_ble_eq_true rfl) d_M_add_93 ⟨by first | exact Nat.le_of_ble_eq_true rfl | (dsimp only; omega) | omega, by first | exact Nat.le_of_ble_eq_true rfl | (dsimp only; omega) | omega⟩ rfl (fun r9 h9 H locs hp hw => ?_)
            obtain ⟨r8, m8, n8, k8⟩ := hp
            subst r8
            obtain ⟨h2, e7⟩ : ∃ x9, x9 = h9 := ⟨_, rfl⟩
            subst e7
            have g2_ma_2 : h2 (ma 2) = some ((23, 0), .inl (g.2.1 5, 6, .inr (.inr (.inr (.inr (fun k => some (rw9 k))))))) := k8 _ _ _ f1_ma_2 (by simp)
            have g2_rw9_1 : h2 (rw9 1) = some ((24, 1), .inl (g.2.1 1, 128, .inl (rf 1))) := k8 _ _ _ f1_rw9_1 (by simp)
            have kk2 : z_K (fun y => y = 20 ∨ y = 29 ∨ y = 30) h h2 := kk1.tr (k8.mono (fun y z => by omega))
            refine W.eq (g2 := F0 m 96 ls [.int (nI R.1)]) rfl ?_
            have addNtb : tbC (addN R (nI fi, pa, v9, [])).2 (addN R (nI fi, pa, v9, [])).1 = tbC R.2 R.1 := addN_tb
            have fn3 : h2 mo = some ((20, 0), .inr (11, mF ma 0 (nI T.length) siz (nI S.1) (nI (cc S)) ffl fcl (nI ((addN R (nI fi, pa, v9, [])).1)) (nI (tbC (addN R (nI fi, pa, v9, [])).2 (addN R (nI fi, pa, v9, [])).1)) (nI O.length) at9 il)) := by rw [addNtb]; exact m8
            exact z_iret hx hb hr hlocks hw (by have eW : oAdd S R pa f9 v9 = (nI R.1, (addN R (nI fi, pa, v9, []))) := (by unfold oAdd; rw [okAdd_may, c_11, ef, nI_clamp (by omega), decide_eq_false (show ¬ fTy (S.2 fi) = 3 from c_23), decide_eq_false (show ¬ fTy (S.2 fi) = 1 from c_35)]; simp only [Bool.not_false, Bool.true_or, Bool.and_true, if_true]; unfold keptN; rw [if_neg (show ¬ fTy (S.2 fi) = 0 from c_75), if_neg (show ¬ fTy (S.2 fi) = 4 from c_60)]); refine ⟨by rw [eW], ?_, kk2.mono (fun y z => by unfold KMr; omega)⟩; rw [eW]; exact ⟨ma, _, _, _, _, _, _, fn3, hTp.k kk2 (by omega), hTx.k kk2 (by omega), ⟨_, _, _, hSc.k kk2 (by omega) (by omega) (by omega)⟩, hSf.k kk2 (by omega) (by omega) (by omega), n8, hOl.k kk2 (by omega) (by omega) (by omega), hOu.k kk2 (by omega)⟩) (by decide) (by decide) d_M_add_96
          · -- 75: False
            refine lv_lload_n hx hb d_M_add_78 rfl (lv_at hl 3 rfl) ?_
            refine lv_lconst (v := 0) hx hb d_M_add_79 (by decide) ?_
            refine W.lcmp hx hb d_M_add_80 ?_
            refine lv_if_eq (tgt := 88) hx hb d_M_add_81 (by decide) (fun c_81 => ?_) (fun c_81 => ?_)
            · -- 81: True
              have c_81 : (v9 : Int64) = 0 := (lg_cmp_eq _ _).mp c_81
              refine lv_lconst (v := 0) hx hb d_M_add_88 (by decide) ?_
              refine lv_goto (tgt := 93) hx hb d_M_add_89 (by decide) ?_
              have hN2 := hNd.k sg_Nh1 (by omega) (by omega) (by omega)
              refine z_callV (n := 3) (As := [.int pa, .int (nI fi), .long 0]) (rest := []) ⟨hx, hb, hml, hown, hts⟩ (m_node l g h1 f1_mo hN2 (by omega)) (z_in k_991 rfl) (z_in k_7 rfl) (z_in k_988 rfl) (z_in k_990 rfl) (z_in ks_44 rfl) (by decide +kernel) ⟨by first | exact Nat.le_of_ble_eq_true rfl | (dsimp only; omega) | omega, by first | exact Nat.le_of_ble_eq_true rfl | (dsimp only; omega) | omega⟩ hK hE hw hA rfl f1_mo rfl hl.1 (Nat.le_of_ble_eq_true rfl) d_M_add_93 ⟨by first | exact Nat.le_of_ble_eq_true rfl | (dsimp only; omega) | omega, by first | exact Nat.le_of_ble_eq_true rfl | (dsimp only; omega) | omega⟩ rfl (fun r9 h9 H locs hp hw => ?_)
              obtain ⟨r8, m8, n8, k8⟩ := hp
              subst r8
              obtain ⟨h4, e7⟩ : ∃ x9, x9 = h9 := ⟨_, rfl⟩
              subst e7
              have g4_ma_2 : h4 (ma 2) = some ((23, 0), .inl (g.2.1 5, 6, .inr (.inr (.inr (.inr (fun k => some (rw9 k))))))) := k8 _ _ _ f1_ma_2 (by simp)
              have g4_rw9_1 : h4 (rw9 1) = some ((24, 1), .inl (g.2.1 1, 128, .inl (rf 1))) := k8 _ _ _ f1_rw9_1 (by simp)
              have kk4 : z_K (fun y => y = 20 ∨ y = 29 ∨ y = 30) h h4 := kk1.tr (k8.mono (fun y z => by omega))
              refine W.eq (g2 := F0 m 96 ls [.int (nI R.1)]) rfl ?_
              have addNtb : tbC (addN R (nI fi, pa, 0, [])).2 (addN R (nI fi, pa, 0, [])).1 = tbC R.2 R.1 := addN_tb
              have fn5 : h4 mo = some ((20, 0), .inr (11, mF ma 0 (nI T.length) siz (nI S.1) (nI (cc S)) ffl fcl (nI ((addN R (nI fi, pa, 0, [])).1)) (nI (tbC (addN R (nI fi, pa, 0, [])).2 (addN R (nI fi, pa, 0, [])).1)) (nI O.length) at9 il)) := by rw [addNtb]; exact m8
              exact z_iret hx hb hr hlocks hw (by have eW : oAdd S R pa f9 v9 = (nI R.1, (addN R (nI fi, pa, 0, []))) := (by unfold oAdd; rw [okAdd_may, c_11, ef, nI_clamp (by omega), decide_eq_false (show ¬ fTy (S.2 fi) = 3 from c_23), decide_eq_false (show ¬ fTy (S.2 fi) = 1 from c_35)]; simp only [Bool.not_false, Bool.true_or, Bool.and_true, if_true]; unfold keptN; rw [if_pos (show fTy (S.2 fi) = 0 by simpa using c_75), if_pos (show v9 = 0 from c_81)]); refine ⟨by rw [eW], ?_, kk4.mono (fun y z => by unfold KMr; omega)⟩; rw [eW]; exact ⟨ma, _, _, _, _, _, _, fn5, hTp.k kk4 (by omega), hTx.k kk4 (by omega), ⟨_, _, _, hSc.k kk4 (by omega) (by omega) (by omega)⟩, hSf.k kk4 (by omega) (by omega) (by omega), n8, hOl.k kk4 (by omega) (by omega) (by omega), hOu.k kk4 (by omega)⟩) (by decide) (by decide) d_M_add_96
            · -- 81: False
              have c_81 : ¬ ((v9 : Int64) = 0) := fun z => c_81 ((lg_cmp_eq _ _).mpr z)
              refine lv_lconst (v := 1) hx hb d_M_add_84 (by decide) ?_
              refine lv_goto (tgt := 93) hx hb d_M_add_85 (by decide) ?_
              have hN2 := hNd.k sg_Nh1 (by omega) (by omega) (by omega)
              refine z_callV (n := 3) (As := [.int pa, .int (nI fi), .long 1]) (rest := []) ⟨hx, hb, hml, hown, hts⟩ (m_node l g h1 f1_mo hN2 (by omega)) (z_in k_991 rfl) (z_in k_7 rfl) (z_in k_988 rfl) (z_in k_990 rfl) (z_in ks_44 rfl) (by decide +kernel) ⟨by first | exact Nat.le_of_ble_eq_true rfl | (dsimp only; omega) | omega, by first | exact Nat.le_of_ble_eq_true rfl | (dsimp only; omega) | omega⟩ hK hE hw hA rfl f1_mo rfl hl.1 (Nat.le_of_ble_eq_true rfl) d_M_add_93 ⟨by first | exact Nat.le_of_ble_eq_true rfl | (dsimp only; omega) | omega, by first | exact Nat.le_of_ble_eq_true rfl | (dsimp only; omega) | omega⟩ rfl (fun r9 h9 H locs hp hw => ?_)
              obtain ⟨r8, m8, n8, k8⟩ := hp
              subst r8
              obtain ⟨h6, e7⟩ : ∃ x9, x9 = h9 := ⟨_, rfl⟩
              subst e7
              have g6_ma_2 : h6 (ma 2) = some ((23, 0), .inl (g.2.1 5, 6, .inr (.inr (.inr (.inr (fun k => some (rw9 k))))))) := k8 _ _ _ f1_ma_2 (by simp)
              have g6_rw9_1 : h6 (rw9 1) = some ((24, 1), .inl (g.2.1 1, 128, .inl (rf 1))) := k8 _ _ _ f1_rw9_1 (by simp)
              have kk6 : z_K (fun y => y = 20 ∨ y = 29 ∨ y = 30) h h6 := kk1.tr (k8.mono (fun y z => by omega))
              refine W.eq (g2 := F0 m 96 ls [.int (nI R.1)]) rfl ?_
              have addNtb : tbC (addN R (nI fi, pa, 1, [])).2 (addN R (nI fi, pa, 1, [])).1 = tbC R.2 R.1 := addN_tb
              have fn7 : h6 mo = some ((20, 0), .inr (11, mF ma 0 (nI T.length) siz (nI S.1) (nI (cc S)) ffl fcl (nI ((addN R (nI fi, pa, 1, [])).1)) (nI (tbC (addN R (nI fi, pa, 1, [])).2 (addN R (nI fi, pa, 1, [])).1)) (nI O.length) at9 il)) := by rw [addNtb]; exact m8
              exact z_iret hx hb hr hlocks hw (by have eW : oAdd S R pa f9 v9 = (nI R.1, (addN R (nI fi, pa, 1, []))) := (by unfold oAdd; rw [okAdd_may, c_11, ef, nI_clamp (by omega), decide_eq_false (show ¬ fTy (S.2 fi) = 3 from c_23), decide_eq_false (show ¬ fTy (S.2 fi) = 1 from c_35)]; simp only [Bool.not_false, Bool.true_or, Bool.and_true, if_true]; unfold keptN; rw [if_pos (show fTy (S.2 fi) = 0 by simpa using c_75), if_neg (show ¬ v9 = 0 from c_81)]); refine ⟨by rw [eW], ?_, kk6.mono (fun y z => by unfold KMr; omega)⟩; rw [eW]; exact ⟨ma, _, _, _, _, _, _, fn7, hTp.k kk6 (by omega), hTx.k kk6 (by omega), ⟨_, _, _, hSc.k kk6 (by omega) (by omega) (by omega)⟩, hSf.k kk6 (by omega) (by omega) (by omega), n8, hOl.k kk6 (by omega) (by omega) (by omega), hOu.k kk6 (by omega)⟩) (by decide) (by decide) d_M_add_96
        · -- 60: False
          refine lv_lconst (v := 0) hx hb d_M_add_63 (by decide) ?_
          refine lv_goto (tgt := 93) hx hb d_M_add_64 (by decide) ?_
          have hN2 := hNd.k sg_Nh1 (by omega) (by omega) (by omega)
          refine z_callV (n := 3) (As := [.int pa, .int (nI fi), .long 0]) (rest := []) ⟨hx, hb, hml, hown, hts⟩ (m_node l g h1 f1_mo hN2 (by omega)) (z_in k_991 rfl) (z_in k_7 rfl) (z_in k_988 rfl) (z_in k_990 rfl) (z_in ks_44 rfl) (by decide +kernel) ⟨by first | exact Nat.le_of_ble_eq_true rfl | (dsimp only; omega) | omega, by first | exact Nat.le_of_ble_eq_true rfl | (dsimp only; omega) | omega⟩ hK hE hw hA rfl f1_mo rfl hl.1 (Nat.le_of_ble_eq_true rfl) d_M_add_93 ⟨by first | exact Nat.le_of_ble_eq_true rfl | (dsimp only; omega) | omega, by first | exact Nat.le_of_ble_eq_true rfl | (dsimp only; omega) | omega⟩ rfl (fun r9 h9 H locs hp hw => ?_)
          obtain ⟨r8, m8, n8, k8⟩ := hp
          subst r8
          obtain ⟨h8, e7⟩ : ∃ x9, x9 = h9 := ⟨_, rfl⟩
          subst e7
          have g8_ma_2 : h8 (ma 2) = some ((23, 0), .inl (g.2.1 5, 6, .inr (.inr (.inr (.inr (fun k => some (rw9 k))))))) := k8 _ _ _ f1_ma_2 (by simp)
          have g8_rw9_1 : h8 (rw9 1) = some ((24, 1), .inl (g.2.1 1, 128, .inl (rf 1))) := k8 _ _ _ f1_rw9_1 (by simp)
          have kk8 : z_K (fun y => y = 20 ∨ y = 29 ∨ y = 30) h h8 := kk1.tr (k8.mono (fun y z => by omega))
          refine W.eq (g2 := F0 m 96 ls [.int (nI R.1)]) rfl ?_
          have addNtb : tbC (addN R (nI fi, pa, 0, [])).2 (addN R (nI fi, pa, 0, [])).1 = tbC R.2 R.1 := addN_tb
          have fn9 : h8 mo = some ((20, 0), .inr (11, mF ma 0 (nI T.length) siz (nI S.1) (nI (cc S)) ffl fcl (nI ((addN R (nI fi, pa, 0, [])).1)) (nI (tbC (addN R (nI fi, pa, 0, [])).2 (addN R (nI fi, pa, 0, [])).1)) (nI O.length) at9 il)) := by rw [addNtb]; exact m8
          exact z_iret hx hb hr hlocks hw (by have eW : oAdd S R pa f9 v9 = (nI R.1, (addN R (nI fi, pa, 0, []))) := (by unfold oAdd; rw [okAdd_may, c_11, ef, nI_clamp (by omega), decide_eq_false (show ¬ fTy (S.2 fi) = 3 from c_23), decide_eq_false (show ¬ fTy (S.2 fi) = 1 from c_35)]; simp only [Bool.not_false, Bool.true_or, Bool.and_true, if_true]; unfold keptN; rw [if_neg (by rw [show fTy (S.2 fi) = 4 by simpa using c_60]; decide), if_pos (show fTy (S.2 fi) = 4 by simpa using c_60)]); refine ⟨by rw [eW], ?_, kk8.mono (fun y z => by unfold KMr; omega)⟩; rw [eW]; exact ⟨ma, _, _, _, _, _, _, fn9, hTp.k kk8 (by omega), hTx.k kk8 (by omega), ⟨_, _, _, hSc.k kk8 (by omega) (by omega) (by omega)⟩, hSf.k kk8 (by omega) (by omega) (by omega), n8, hOl.k kk8 (by omega) (by omega) (by omega), hOu.k kk8 (by omega)⟩) (by decide) (by decide) d_M_add_96
      · -- 35: False
        refine lv_lload_n hx hb d_M_add_38 rfl (lv_at hl 3 rfl) ?_
        refine lv_lload_n hx hb d_M_add_39 rfl (lv_at hl 3 rfl) ?_
        refine lv_l2i hx hb d_M_add_40 rfl ?_
        refine lv_i2l hx hb d_M_add_41 rfl ?_
        refine W.lcmp hx hb d_M_add_42 ?_
        refine lv_if_eq (tgt := 48) hx hb d_M_add_43 (by decide) (fun c_43 => ?_) (fun c_43 => ?_)
        · -- 43: True
          have c_43 : (v9 : Int64) = ((v9.toInt32 : Int32).toInt64) := (lg_cmp_eq _ _).mp c_43
          refine lv_aload_n hx hb d_M_add_48 rfl (lv_at hl 0 rfl) ?_
          refine lv_iload_n hx hb d_M_add_49 rfl (lv_at hl 1 rfl) ?_
          refine lv_iload_n hx hb d_M_add_50 rfl (lv_at hl 2 rfl) ?_
          refine lv_aload_n hx hb d_M_add_51 rfl (lv_at hl 0 rfl) ?_
          refine z_get hx hb hts (z_lay i_M) hown hK hw f1_mo rfl 5 (by decide) (z_in k_776 rfl) (fun _ h9 => h9) rfl d_M_add_52 ?_
          refine lv_iconst (v := 1) hx hb d_M_add_55 (by decide) ?_
          refine z_aldr hx hb hK hw f1_ma_2 5 rfl (by unfold vp_in; decide) d_M_add_56 ?_
          refine z_top (y := va_rf ((fun k => some (rw9 k)) 1)) (by rfl) ?_
          refine z_top (y := .ref (rw9 1)) (rfl) ?_
          refine lv_iload_n hx hb d_M_add_57 rfl (lv_at hl 2 rfl) ?_
          refine z_iald hx hb hK hw f1_rw9_1 1 rfl (vp_in_nI (by omega) (by omega)) d_M_add_58 ?_
          refine z_topi (y := (rf 1) fi) (by rw [nI_clamp (by omega)]) ?_
          refine z_top (y := .int (fTy (S.2 fi))) (by rw [(hSc.2.2.2 fi hfi).2.1]) ?_
          refine lv_iconst (v := 4) hx hb d_M_add_59 (by decide) ?_
          refine lv_icmp_ne (tgt := 67) hx hb d_M_add_60 (by decide) (fun c_60 => ?_) (fun c_60 => ?_)
          · -- 60: True
            refine lv_aload_n hx hb d_M_add_67 rfl (lv_at hl 0 rfl) ?_
            refine z_get hx hb hts (z_lay i_M) hown hK hw f1_mo rfl 5 (by decide) (z_in k_776 rfl) (fun _ h9 => h9) rfl d_M_add_68 ?_
            refine lv_iconst (v := 1) hx hb d_M_add_71 (by decide) ?_
            refine z_aldr hx hb hK hw f1_ma_2 5 rfl (by unfold vp_in; decide) d_M_add_72 ?_
            refine z_top (y := va_rf ((fun k => some (rw9 k)) 1)) (by rfl) ?_
            refine z_top (y := .ref (rw9 1)) (rfl) ?_
            refine lv_iload_n hx hb d_M_add_73 rfl (lv_at hl 2 rfl) ?_
            refine z_iald hx hb hK hw f1_rw9_1 1 rfl (vp_in_nI (by omega) (by omega)) d_M_add_74 ?_
            refine z_topi (y := (rf 1) fi) (by rw [nI_clamp (by omega)]) ?_
            refine z_top (y := .int (fTy (S.2 fi))) (by rw [(hSc.2.2.2 fi hfi).2.1]) ?_
            refine lv_if_ne (tgt := 92) hx hb d_M_add_75 (by decide) (fun c_75 => ?_) (fun c_75 => ?_)
            · -- 75: True
              refine lv_lload_n hx hb d_M_add_92 rfl (lv_at hl 3 rfl) ?_
              have hN2 := hNd.k sg_Nh1 (by omega) (by omega) (by omega)
              refine z_callV (n := 3) (As := [.int pa, .int (nI fi), .long v9]) (rest := []) ⟨hx, hb, hml, hown, hts⟩ (m_node l g h1 f1_mo hN2 (by omega)) (z_in k_991 rfl) (z_in k_7 rfl) (z_in k_988 rfl) (z_in k_990 rfl) (z_in ks_44 rfl) (by decide +kernel) ⟨by first | exact Nat.le_of_ble_eq_true rfl | (dsimp only; omega) | omega, by first | exact Nat.le_of_ble_eq_true rfl | (dsimp only; omega) | omega⟩ hK hE hw hA rfl f1_mo rfl hl.1 (Nat.le_of_ble_eq_true rfl) d_M_add_93 ⟨by first | exact Nat.le_of_ble_eq_true rfl | (dsimp only; omega) | omega, by first | exact Nat.le_of_ble_eq_true rfl | (dsimp only; omega) | omega⟩ rfl (fun r9 h9 H locs hp hw => ?_)
              obtain ⟨r8, m8, n8, k8⟩ := hp
              subst r8
              obtain ⟨h10, e7⟩ : ∃ x9, x9 = h9 := ⟨_, rfl⟩
              subst e7
              have g10_ma_2 : h10 (ma 2) = some ((23, 0), .inl (g.2.1 5, 6, .inr (.inr (.inr (.inr (fun k => some (rw9 k))))))) := k8 _ _ _ f1_ma_2 (by simp)
              have g10_rw9_1 : h10 (rw9 1) = some ((24, 1), .inl (g.2.1 1, 128, .inl (rf 1))) := k8 _ _ _ f1_rw9_1 (by simp)
              have kk10 : z_K (fun y => y = 20 ∨ y = 29 ∨ y = 30) h h10 := kk1.tr (k8.mono (fun y z => by omega))
              refine W.eq (g2 := F0 m 96 ls [.int (nI R.1)]) rfl ?_
              have addNtb : tbC (addN R (nI fi, pa, v9, [])).2 (addN R (nI fi, pa, v9, [])).1 = tbC R.2 R.1 := addN_tb
              have fn11 : h10 mo = some ((20, 0), .inr (11, mF ma 0 (nI T.length) siz (nI S.1) (nI (cc S)) ffl fcl (nI ((addN R (nI fi, pa, v9, [])).1)) (nI (tbC (addN R (nI fi, pa, v9, [])).2 (addN R (nI fi, pa, v9, [])).1)) (nI O.length) at9 il)) := by rw [addNtb]; exact m8
              exact z_iret hx hb hr hlocks hw (by have eW : oAdd S R pa f9 v9 = (nI R.1, (addN R (nI fi, pa, v9, []))) := (by unfold oAdd; rw [okAdd_may, c_11, ef, nI_clamp (by omega), decide_eq_false (show ¬ fTy (S.2 fi) = 3 from c_23), decide_eq_true (show v9 = v9.toInt32.toInt64 from c_43), Bool.or_true]; simp only [Bool.not_false, Bool.true_or, Bool.and_true, if_true]; unfold keptN; rw [if_neg (show ¬ fTy (S.2 fi) = 0 from c_75), if_neg (show ¬ fTy (S.2 fi) = 4 from c_60)]); refine ⟨by rw [eW], ?_, kk10.mono (fun y z => by unfold KMr; omega)⟩; rw [eW]; exact ⟨ma, _, _, _, _, _, _, fn11, hTp.k kk10 (by omega), hTx.k kk10 (by omega), ⟨_, _, _, hSc.k kk10 (by omega) (by omega) (by omega)⟩, hSf.k kk10 (by omega) (by omega) (by omega), n8, hOl.k kk10 (by omega) (by omega) (by omega), hOu.k kk10 (by omega)⟩) (by decide) (by decide) d_M_add_96
            · -- 75: False
              refine lv_lload_n hx hb d_M_add_78 rfl (lv_at hl 3 rfl) ?_
              refine lv_lconst (v := 0) hx hb d_M_add_79 (by decide) ?_
              refine W.lcmp hx hb d_M_add_80 ?_
              refine lv_if_eq (tgt := 88) hx hb d_M_add_81 (by decide) (fun c_81 => ?_) (fun c_81 => ?_)
              · -- 81: True
                have c_81 : (v9 : Int64) = 0 := (lg_cmp_eq _ _).mp c_81
                refine lv_lconst (v := 0) hx hb d_M_add_88 (by decide) ?_
                refine lv_goto (tgt := 93) hx hb d_M_add_89 (by decide) ?_
                have hN2 := hNd.k sg_Nh1 (by omega) (by omega) (by omega)
                refine z_callV (n := 3) (As := [.int pa, .int (nI fi), .long 0]) (rest := []) ⟨hx, hb, hml, hown, hts⟩ (m_node l g h1 f1_mo hN2 (by omega)) (z_in k_991 rfl) (z_in k_7 rfl) (z_in k_988 rfl) (z_in k_990 rfl) (z_in ks_44 rfl) (by decide +kernel) ⟨by first | exact Nat.le_of_ble_eq_true rfl | (dsimp only; omega) | omega, by first | exact Nat.le_of_ble_eq_true rfl | (dsimp only; omega) | omega⟩ hK hE hw hA rfl f1_mo rfl hl.1 (Nat.le_of_ble_eq_true rfl) d_M_add_93 ⟨by first | exact Nat.le_of_ble_eq_true rfl | (dsimp only; omega) | omega, by first | exact Nat.le_of_ble_eq_true rfl | (dsimp only; omega) | omega⟩ rfl (fun r9 h9 H locs hp hw => ?_)
                obtain ⟨r8, m8, n8, k8⟩ := hp
                subst r8
                obtain ⟨h12, e7⟩ : ∃ x9, x9 = h9 := ⟨_, rfl⟩
                subst e7
                have g12_ma_2 : h12 (ma 2) = some ((23, 0), .inl (g.2.1 5, 6, .inr (.inr (.inr (.inr (fun k => some (rw9 k))))))) := k8 _ _ _ f1_ma_2 (by simp)
                have g12_rw9_1 : h12 (rw9 1) = some ((24, 1), .inl (g.2.1 1, 128, .inl (rf 1))) := k8 _ _ _ f1_rw9_1 (by simp)
                have kk12 : z_K (fun y => y = 20 ∨ y = 29 ∨ y = 30) h h12 := kk1.tr (k8.mono (fun y z => by omega))
                refine W.eq (g2 := F0 m 96 ls [.int (nI R.1)]) rfl ?_
                have addNtb : tbC (addN R (nI fi, pa, 0, [])).2 (addN R (nI fi, pa, 0, [])).1 = tbC R.2 R.1 := addN_tb
                have fn13 : h12 mo = some ((20, 0), .inr (11, mF ma 0 (nI T.length) siz (nI S.1) (nI (cc S)) ffl fcl (nI ((addN R (nI fi, pa, 0, [])).1)) (nI (tbC (addN R (nI fi, pa, 0, [])).2 (addN R (nI fi, pa, 0, [])).1)) (nI O.length) at9 il)) := by rw [addNtb]; exact m8
                exact z_iret hx hb hr hlocks hw (by have eW : oAdd S R pa f9 v9 = (nI R.1, (addN R (nI fi, pa, 0, []))) := (by unfold oAdd; rw [okAdd_may, c_11, ef, nI_clamp (by omega), decide_eq_false (show ¬ fTy (S.2 fi) = 3 from c_23), decide_eq_true (show v9 = v9.toInt32.toInt64 from c_43), Bool.or_true]; simp only [Bool.not_false, Bool.true_or, Bool.and_true, if_true]; unfold keptN; rw [if_pos (show fTy (S.2 fi) = 0 by simpa using c_75), if_pos (show v9 = 0 from c_81)]); refine ⟨by rw [eW], ?_, kk12.mono (fun y z => by unfold KMr; omega)⟩; rw [eW]; exact ⟨ma, _, _, _, _, _, _, fn13, hTp.k kk12 (by omega), hTx.k kk12 (by omega), ⟨_, _, _, hSc.k kk12 (by omega) (by omega) (by omega)⟩, hSf.k kk12 (by omega) (by omega) (by omega), n8, hOl.k kk12 (by omega) (by omega) (by omega), hOu.k kk12 (by omega)⟩) (by decide) (by decide) d_M_add_96
              · -- 81: False
                have c_81 : ¬ ((v9 : Int64) = 0) := fun z => c_81 ((lg_cmp_eq _ _).mpr z)
                refine lv_lconst (v := 1) hx hb d_M_add_84 (by decide) ?_
                refine lv_goto (tgt := 93) hx hb d_M_add_85 (by decide) ?_
                have hN2 := hNd.k sg_Nh1 (by omega) (by omega) (by omega)
                refine z_callV (n := 3) (As := [.int pa, .int (nI fi), .long 1]) (rest := []) ⟨hx, hb, hml, hown, hts⟩ (m_node l g h1 f1_mo hN2 (by omega)) (z_in k_991 rfl) (z_in k_7 rfl) (z_in k_988 rfl) (z_in k_990 rfl) (z_in ks_44 rfl) (by decide +kernel) ⟨by first | exact Nat.le_of_ble_eq_true rfl | (dsimp only; omega) | omega, by first | exact Nat.le_of_ble_eq_true rfl | (dsimp only; omega) | omega⟩ hK hE hw hA rfl f1_mo rfl hl.1 (Nat.le_of_ble_eq_true rfl) d_M_add_93 ⟨by first | exact Nat.le_of_ble_eq_true rfl | (dsimp only; omega) | omega, by first | exact Nat.le_of_ble_eq_true rfl | (dsimp only; omega) | omega⟩ rfl (fun r9 h9 H locs hp hw => ?_)
                obtain ⟨r8, m8, n8, k8⟩ := hp
                subst r8
                obtain ⟨h14, e7⟩ : ∃ x9, x9 = h9 := ⟨_, rfl⟩
                subst e7
                have g14_ma_2 : h14 (ma 2) = some ((23, 0), .inl (g.2.1 5, 6, .inr (.inr (.inr (.inr (fun k => some (rw9 k))))))) := k8 _ _ _ f1_ma_2 (by simp)
                have g14_rw9_1 : h14 (rw9 1) = some ((24, 1), .inl (g.2.1 1, 128, .inl (rf 1))) := k8 _ _ _ f1_rw9_1 (by simp)
                have kk14 : z_K (fun y => y = 20 ∨ y = 29 ∨ y = 30) h h14 := kk1.tr (k8.mono (fun y z => by omega))
                refine W.eq (g2 := F0 m 96 ls [.int (nI R.1)]) rfl ?_
                have addNtb : tbC (addN R (nI fi, pa, 1, [])).2 (addN R (nI fi, pa, 1, [])).1 = tbC R.2 R.1 := addN_tb
                have fn15 : h14 mo = some ((20, 0), .inr (11, mF ma 0 (nI T.length) siz (nI S.1) (nI (cc S)) ffl fcl (nI ((addN R (nI fi, pa, 1, [])).1)) (nI (tbC (addN R (nI fi, pa, 1, [])).2 (addN R (nI fi, pa, 1, [])).1)) (nI O.length) at9 il)) := by rw [addNtb]; exact m8
                exact z_iret hx hb hr hlocks hw (by have eW : oAdd S R pa f9 v9 = (nI R.1, (addN R (nI fi, pa, 1, []))) := (by unfold oAdd; rw [okAdd_may, c_11, ef, nI_clamp (by omega), decide_eq_false (show ¬ fTy (S.2 fi) = 3 from c_23), decide_eq_true (show v9 = v9.toInt32.toInt64 from c_43), Bool.or_true]; simp only [Bool.not_false, Bool.true_or, Bool.and_true, if_true]; unfold keptN; rw [if_pos (show fTy (S.2 fi) = 0 by simpa using c_75), if_neg (show ¬ v9 = 0 from c_81)]); refine ⟨by rw [eW], ?_, kk14.mono (fun y z => by unfold KMr; omega)⟩; rw [eW]; exact ⟨ma, _, _, _, _, _, _, fn15, hTp.k kk14 (by omega), hTx.k kk14 (by omega), ⟨_, _, _, hSc.k kk14 (by omega) (by omega) (by omega)⟩, hSf.k kk14 (by omega) (by omega) (by omega), n8, hOl.k kk14 (by omega) (by omega) (by omega), hOu.k kk14 (by omega)⟩) (by decide) (by decide) d_M_add_96
          · -- 60: False
            refine lv_lconst (v := 0) hx hb d_M_add_63 (by decide) ?_
            refine lv_goto (tgt := 93) hx hb d_M_add_64 (by decide) ?_
            have hN2 := hNd.k sg_Nh1 (by omega) (by omega) (by omega)
            refine z_callV (n := 3) (As := [.int pa, .int (nI fi), .long 0]) (rest := []) ⟨hx, hb, hml, hown, hts⟩ (m_node l g h1 f1_mo hN2 (by omega)) (z_in k_991 rfl) (z_in k_7 rfl) (z_in k_988 rfl) (z_in k_990 rfl) (z_in ks_44 rfl) (by decide +kernel) ⟨by first | exact Nat.le_of_ble_eq_true rfl | (dsimp only; omega) | omega, by first | exact Nat.le_of_ble_eq_true rfl | (dsimp only; omega) | omega⟩ hK hE hw hA rfl f1_mo rfl hl.1 (Nat.le_of_ble_eq_true rfl) d_M_add_93 ⟨by first | exact Nat.le_of_ble_eq_true rfl | (dsimp only; omega) | omega, by first | exact Nat.le_of_ble_eq_true rfl | (dsimp only; omega) | omega⟩ rfl (fun r9 h9 H locs hp hw => ?_)
            obtain ⟨r8, m8, n8, k8⟩ := hp
            subst r8
            obtain ⟨h16, e7⟩ : ∃ x9, x9 = h9 := ⟨_, rfl⟩
            subst e7
            have g16_ma_2 : h16 (ma 2) = some ((23, 0), .inl (g.2.1 5, 6, .inr (.inr (.inr (.inr (fun k => some (rw9 k))))))) := k8 _ _ _ f1_ma_2 (by simp)
            have g16_rw9_1 : h16 (rw9 1) = some ((24, 1), .inl (g.2.1 1, 128, .inl (rf 1))) := k8 _ _ _ f1_rw9_1 (by simp)
            have kk16 : z_K (fun y => y = 20 ∨ y = 29 ∨ y = 30) h h16 := kk1.tr (k8.mono (fun y z => by omega))
            refine W.eq (g2 := F0 m 96 ls [.int (nI R.1)]) rfl ?_
            have addNtb : tbC (addN R (nI fi, pa, 0, [])).2 (addN R (nI fi, pa, 0, [])).1 = tbC R.2 R.1 := addN_tb
            have fn17 : h16 mo = some ((20, 0), .inr (11, mF ma 0 (nI T.length) siz (nI S.1) (nI (cc S)) ffl fcl (nI ((addN R (nI fi, pa, 0, [])).1)) (nI (tbC (addN R (nI fi, pa, 0, [])).2 (addN R (nI fi, pa, 0, [])).1)) (nI O.length) at9 il)) := by rw [addNtb]; exact m8
            exact z_iret hx hb hr hlocks hw (by have eW : oAdd S R pa f9 v9 = (nI R.1, (addN R (nI fi, pa, 0, []))) := (by unfold oAdd; rw [okAdd_may, c_11, ef, nI_clamp (by omega), decide_eq_false (show ¬ fTy (S.2 fi) = 3 from c_23), decide_eq_true (show v9 = v9.toInt32.toInt64 from c_43), Bool.or_true]; simp only [Bool.not_false, Bool.true_or, Bool.and_true, if_true]; unfold keptN; rw [if_neg (by rw [show fTy (S.2 fi) = 4 by simpa using c_60]; decide), if_pos (show fTy (S.2 fi) = 4 by simpa using c_60)]); refine ⟨by rw [eW], ?_, kk16.mono (fun y z => by unfold KMr; omega)⟩; rw [eW]; exact ⟨ma, _, _, _, _, _, _, fn17, hTp.k kk16 (by omega), hTx.k kk16 (by omega), ⟨_, _, _, hSc.k kk16 (by omega) (by omega) (by omega)⟩, hSf.k kk16 (by omega) (by omega) (by omega), n8, hOl.k kk16 (by omega) (by omega) (by omega), hOu.k kk16 (by omega)⟩) (by decide) (by decide) d_M_add_96
        · -- 43: False
          have c_43 : ¬ ((v9 : Int64) = ((v9.toInt32 : Int32).toInt64)) := fun z => c_43 ((lg_cmp_eq _ _).mpr z)
          refine lv_iconst (v := (-1)) hx hb d_M_add_46 (by decide) ?_
          exact z_iret hx hb hr hlocks hw (by have eW : oAdd S R pa f9 v9 = (-1, R) := (by unfold oAdd; rw [okAdd_may, ef, nI_clamp (by omega), decide_eq_true (show fTy (S.2 fi) = 1 by simpa using c_35), decide_eq_false (show ¬ v9 = v9.toInt32.toInt64 from c_43), Bool.not_true, Bool.false_or, Bool.and_false, Bool.and_false]; rfl); refine ⟨by rw [eW], ?_, kk1.mono (fun y z => by unfold KMr; omega)⟩; rw [eW]; exact ⟨ma, _, _, _, _, _, _, f1_mo, hTp.k sg_Nh1 (by omega), hTx.k sg_Nh1 (by omega), ⟨_, _, _, hSc.k sg_Nh1 (by omega) (by omega) (by omega)⟩, hSf.k sg_Nh1 (by omega) (by omega) (by omega), ⟨_, _, _, _, _, _, hNd.k sg_Nh1 (by omega) (by omega) (by omega)⟩, hOl.k sg_Nh1 (by omega) (by omega) (by omega), hOu.k sg_Nh1 (by omega)⟩) (by decide) (by decide) d_M_add_47

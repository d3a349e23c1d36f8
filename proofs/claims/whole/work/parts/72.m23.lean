set_option maxHeartbeats 1000000 in
set_option maxRecDepth 100000 in
theorem m_putTrue (l : Launch) (g : z_G) (h : z_H) {mo : Nat} {ma : Nat → Nat} {cod tpd fls cls9 ffl fcl nds sai il : Int32} {siz at9 : Int32} {O : List Nat}  (hmo : h mo = some ((20, 0), .inr (11, mF ma cod tpd siz fls cls9 ffl fcl nds sai (nI O.length) at9 il))) (hOu : MOu g h ma O) (hl9 : O.length + (wdO 8).length ≤ 160000)  : z_C l y_M_putWord prog_13_method_52_code 4 (Option.none : Option Jvm.ClassFile.FieldType) 1 40 0 0 g [.ref mo, .long 1953658213] h (fun x h1 => x = none ∧ h1 mo = some ((20, 0), .inr (11, mF ma cod tpd siz fls cls9 ffl fcl nds sai (nI ((O ++ (wdO 8)).length)) at9 il)) ∧ MOu g h1 ma (O ++ (wdO 8)) ∧ z_K (fun y => y = 20 ∨ y = 35) h h1) := by
  refine z_C.of (by decide) (Nat.le_of_ble_eq_true rfl) (fun pg en s m below meth cd A ls hx hb hml hr hts hown hlocks hnm hK hE hA hw hl => ?_)
  have hl : lv_has ls 4 [(0, .ref mo), (1, .long 1953658213)] := hl
  have lW : (wdO 8).length = 4 := by decide
  have kk0 : z_K (fun y => y = 20 ∨ y = 35) h h := z_K.rf
  refine lv_bipush (v := 56) hx hb d_M_putWord_0 (by decide) ?_
  refine lv_istore_n (lv' := [(3, .int 56), (0, .ref mo), (1, .long 1953658213)]) hx hb d_M_putWord_2 rfl hl (by decide) rfl (fun ls hl => ?_)
  refine lv_iload_n hx hb d_M_putWord_3 rfl (lv_at hl 0 rfl) ?_
  refine lv_if_lt (tgt := 37) hx hb d_M_putWord_4 (by decide) (fun c_4 => ?_) (fun c_4 => ?_)
  · -- 4: True
    exact absurd c_4 (by decide)
  · -- 4: False
    refine lv_lload_n hx hb d_M_putWord_7 rfl (lv_at hl 2 rfl) ?_
    refine lv_iload_n hx hb d_M_putWord_8 rfl (lv_at hl 0 rfl) ?_
    refine lv_lshr hx hb d_M_putWord_9 rfl ?_
    refine lv_ldc2 hx hb hown (hts _ (z_in k_1086 rfl)) d_M_putWord_10 ?_
    refine lv_land hx hb d_M_putWord_13 ?_
    refine z_topl (y := 0) (by decide) ?_
    refine lv_lconst (v := 0) hx hb d_M_putWord_14 (by decide) ?_
    refine W.lcmp hx hb d_M_putWord_15 ?_
    refine lv_if_eq (tgt := 31) hx hb d_M_putWord_16 (by decide) (fun c_16 => ?_) (fun c_16 => ?_)
    · -- 16: True
      have c_16 : (0 : Int64) = 0 := (lg_cmp_eq _ _).mp c_16
      refine lv_iinc (v := 48) (lv' := [(3, .int 48), (0, .ref mo), (1, .long 1953658213)]) hx hb d_M_putWord_31 hl (k := 0) rfl (by decide) (by decide) rfl (fun ls hl => ?_)
      refine lv_goto (tgt := 3) hx hb d_M_putWord_34 (by decide) ?_
      refine lv_iload_n hx hb d_M_putWord_3 rfl (lv_at hl 0 rfl) ?_
      refine lv_if_lt (tgt := 37) hx hb d_M_putWord_4 (by decide) (fun c_4 => ?_) (fun c_4 => ?_)
      · -- 4: True
        exact absurd c_4 (by decide)
      · -- 4: False
        refine lv_lload_n hx hb d_M_putWord_7 rfl (lv_at hl 2 rfl) ?_
        refine lv_iload_n hx hb d_M_putWord_8 rfl (lv_at hl 0 rfl) ?_
        refine lv_lshr hx hb d_M_putWord_9 rfl ?_
        refine lv_ldc2 hx hb hown (hts _ (z_in k_1086 rfl)) d_M_putWord_10 ?_
        refine lv_land hx hb d_M_putWord_13 ?_
        refine z_topl (y := 0) (by decide) ?_
        refine lv_lconst (v := 0) hx hb d_M_putWord_14 (by decide) ?_
        refine W.lcmp hx hb d_M_putWord_15 ?_
        refine lv_if_eq (tgt := 31) hx hb d_M_putWord_16 (by decide) (fun c_16 => ?_) (fun c_16 => ?_)
        · -- 16: True
          have c_16 : (0 : Int64) = 0 := (lg_cmp_eq _ _).mp c_16
          refine lv_iinc (v := 40) (lv' := [(3, .int 40), (0, .ref mo), (1, .long 1953658213)]) hx hb d_M_putWord_31 hl (k := 0) rfl (by decide) (by decide) rfl (fun ls hl => ?_)
          refine lv_goto (tgt := 3) hx hb d_M_putWord_34 (by decide) ?_
          refine lv_iload_n hx hb d_M_putWord_3 rfl (lv_at hl 0 rfl) ?_
          refine lv_if_lt (tgt := 37) hx hb d_M_putWord_4 (by decide) (fun c_4 => ?_) (fun c_4 => ?_)
          · -- 4: True
            exact absurd c_4 (by decide)
          · -- 4: False
            refine lv_lload_n hx hb d_M_putWord_7 rfl (lv_at hl 2 rfl) ?_
            refine lv_iload_n hx hb d_M_putWord_8 rfl (lv_at hl 0 rfl) ?_
            refine lv_lshr hx hb d_M_putWord_9 rfl ?_
            refine lv_ldc2 hx hb hown (hts _ (z_in k_1086 rfl)) d_M_putWord_10 ?_
            refine lv_land hx hb d_M_putWord_13 ?_
            refine z_topl (y := 0) (by decide) ?_
            refine lv_lconst (v := 0) hx hb d_M_putWord_14 (by decide) ?_
            refine W.lcmp hx hb d_M_putWord_15 ?_
            refine lv_if_eq (tgt := 31) hx hb d_M_putWord_16 (by decide) (fun c_16 => ?_) (fun c_16 => ?_)
            · -- 16: True
              have c_16 : (0 : Int64) = 0 := (lg_cmp_eq _ _).mp c_16
              refine lv_iinc (v := 32) (lv' := [(3, .int 32), (0, .ref mo), (1, .long 1953658213)]) hx hb d_M_putWord_31 hl (k := 0) rfl (by decide) (by decide) rfl (fun ls hl => ?_)
              refine lv_goto (tgt := 3) hx hb d_M_putWord_34 (by decide) ?_
              refine lv_iload_n hx hb d_M_putWord_3 rfl (lv_at hl 0 rfl) ?_
              refine lv_if_lt (tgt := 37) hx hb d_M_putWord_4 (by decide) (fun c_4 => ?_) (fun c_4 => ?_)
              · -- 4: True
                exact absurd c_4 (by decide)
              · -- 4: False
                refine lv_lload_n hx hb d_M_putWord_7 rfl (lv_at hl 2 rfl) ?_
                refine lv_iload_n hx hb d_M_putWord_8 rfl (lv_at hl 0 rfl) ?_
                refine lv_lshr hx hb d_M_putWord_9 rfl ?_
                refine lv_ldc2 hx hb hown (hts _ (z_in k_1086 rfl)) d_M_putWord_10 ?_
                refine lv_land hx hb d_M_putWord_13 ?_
                refine z_topl (y := 0) (by decide) ?_
                refine lv_lconst (v := 0) hx hb d_M_putWord_14 (by decide) ?_
                refine W.lcmp hx hb d_M_putWord_15 ?_
                refine lv_if_eq (tgt := 31) hx hb d_M_putWord_16 (by decide) (fun c_16 => ?_) (fun c_16 => ?_)
                · -- 16: True
                  have c_16 : (0 : Int64) = 0 := (lg_cmp_eq _ _).mp c_16
                  refine lv_iinc (v := 24) (lv' := [(3, .int 24), (0, .ref mo), (1, .long 1953658213)]) hx hb d_M_putWord_31 hl (k := 0) rfl (by decide) (by decide) rfl (fun ls hl => ?_)
                  refine lv_goto (tgt := 3) hx hb d_M_putWord_34 (by decide) ?_
                  refine lv_iload_n hx hb d_M_putWord_3 rfl (lv_at hl 0 rfl) ?_
                  refine lv_if_lt (tgt := 37) hx hb d_M_putWord_4 (by decide) (fun c_4 => ?_) (fun c_4 => ?_)
                  · -- 4: True
                    exact absurd c_4 (by decide)
                  · -- 4: False
                    refine lv_lload_n hx hb d_M_putWord_7 rfl (lv_at hl 2 rfl) ?_
                    refine lv_iload_n hx hb d_M_putWord_8 rfl (lv_at hl 0 rfl) ?_
                    refine lv_lshr hx hb d_M_putWord_9 rfl ?_
                    refine lv_ldc2 hx hb hown (hts _ (z_in k_1086 rfl)) d_M_putWord_10 ?_
                    refine lv_land hx hb d_M_putWord_13 ?_
                    refine z_topl (y := 116) (by decide) ?_
                    refine lv_lconst (v := 0) hx hb d_M_putWord_14 (by decide) ?_
                    refine W.lcmp hx hb d_M_putWord_15 ?_
                    refine lv_if_eq (tgt := 31) hx hb d_M_putWord_16 (by decide) (fun c_16 => ?_) (fun c_16 => ?_)
                    · -- 16: True
                      have c_16 : (116 : Int64) = 0 := (lg_cmp_eq _ _).mp c_16
                      exact absurd c_16 (by decide)
                    · -- 16: False
                      have c_16 : ¬ ((116 : Int64) = 0) := fun z => c_16 ((lg_cmp_eq _ _).mpr z)
                      refine lv_aload_n hx hb d_M_putWord_19 rfl (lv_at hl 1 rfl) ?_
                      refine lv_lload_n hx hb d_M_putWord_20 rfl (lv_at hl 2 rfl) ?_
                      refine lv_iload_n hx hb d_M_putWord_21 rfl (lv_at hl 0 rfl) ?_
                      refine lv_lshr hx hb d_M_putWord_22 rfl ?_
                      refine lv_ldc2 hx hb hown (hts _ (z_in k_1086 rfl)) d_M_putWord_23 ?_
                      refine lv_land hx hb d_M_putWord_26 ?_
                      refine z_topl (y := 116) (by decide) ?_
                      refine lv_l2i hx hb d_M_putWord_27 rfl ?_
                      refine z_topi (y := nI 116) (by decide) ?_
                      have ln_1 : (O ++ ([116])).length = O.length + ([116]).length := List.length_append
                      simp only [List.length_cons, List.length_nil] at ln_1
                      refine z_callV (n := 1) (As := [.int (nI 116)]) (rest := []) ⟨hx, hb, hml, hown, hts⟩ (m_put (O := O) (b9 := 116) l g h hmo hOu (by omega) (by omega)) (z_in k_1069 rfl) (z_in k_7 rfl) (z_in k_1066 rfl) (z_in k_1068 rfl) (z_in ks_53 rfl) (by decide +kernel) ⟨by first | exact Nat.le_of_ble_eq_true rfl | (dsimp only; omega) | omega, by first | exact Nat.le_of_ble_eq_true rfl | (dsimp only; omega) | omega⟩ hK hE hw hA rfl hmo rfl hl.1 (Nat.le_of_ble_eq_true rfl) d_M_putWord_28 ⟨by first | exact Nat.le_of_ble_eq_true rfl | (dsimp only; omega) | omega, by first | exact Nat.le_of_ble_eq_true rfl | (dsimp only; omega) | omega⟩ rfl (fun r9 h9 H locs hp hw => ?_)
                      obtain ⟨r8, m8, o8, k8⟩ := hp
                      subst r8
                      obtain ⟨h1, e7⟩ : ∃ x9, x9 = h9 := ⟨_, rfl⟩
                      subst e7
                      generalize eO_1 : O ++ ([116]) = O_1 at m8 o8 ln_1
                      have oh_1 := o8
                      have mh_1 := m8
                      have kk1 : z_K (fun y => y = 20 ∨ y = 35) h h1 := kk0.tr k8
                      refine W.eq (g2 := F0 m 31 ls []) rfl ?_
                      refine lv_iinc (v := 16) (lv' := [(3, .int 16), (0, .ref mo), (1, .long 1953658213)]) hx hb d_M_putWord_31 hl (k := 0) rfl (by decide) (by decide) rfl (fun ls hl => ?_)
                      refine lv_goto (tgt := 3) hx hb d_M_putWord_34 (by decide) ?_
                      refine lv_iload_n hx hb d_M_putWord_3 rfl (lv_at hl 0 rfl) ?_
                      refine lv_if_lt (tgt := 37) hx hb d_M_putWord_4 (by decide) (fun c_4 => ?_) (fun c_4 => ?_)
                      · -- 4: True
                        exact absurd c_4 (by decide)
                      · -- 4: False
                        refine lv_lload_n hx hb d_M_putWord_7 rfl (lv_at hl 2 rfl) ?_
                        refine lv_iload_n hx hb d_M_putWord_8 rfl (lv_at hl 0 rfl) ?_
                        refine lv_lshr hx hb d_M_putWord_9 rfl ?_
                        refine lv_ldc2 hx hb hown (hts _ (z_in k_1086 rfl)) d_M_putWord_10 ?_
                        refine lv_land hx hb d_M_putWord_13 ?_
                        refine z_topl (y := 114) (by decide) ?_
                        refine lv_lconst (v := 0) hx hb d_M_putWord_14 (by decide) ?_
                        refine W.lcmp hx hb d_M_putWord_15 ?_
                        refine lv_if_eq (tgt := 31) hx hb d_M_putWord_16 (by decide) (fun c_16 => ?_) (fun c_16 => ?_)
                        · -- 16: True
                          have c_16 : (114 : Int64) = 0 := (lg_cmp_eq _ _).mp c_16
                          exact absurd c_16 (by decide)
                        · -- 16: False
                          have c_16 : ¬ ((114 : Int64) = 0) := fun z => c_16 ((lg_cmp_eq _ _).mpr z)
                          refine lv_aload_n hx hb d_M_putWord_19 rfl (lv_at hl 1 rfl) ?_
                          refine lv_lload_n hx hb d_M_putWord_20 rfl (lv_at hl 2 rfl) ?_
                          refine lv_iload_n hx hb d_M_putWord_21 rfl (lv_at hl 0 rfl) ?_
                          refine lv_lshr hx hb d_M_putWord_22 rfl ?_
                          refine lv_ldc2 hx hb hown (hts _ (z_in k_1086 rfl)) d_M_putWord_23 ?_
                          refine lv_land hx hb d_M_putWord_26 ?_
                          refine z_topl (y := 114) (by decide) ?_
                          refine lv_l2i hx hb d_M_putWord_27 rfl ?_
                          refine z_topi (y := nI 114) (by decide) ?_
                          have ln_2 : (O_1 ++ ([114])).length = O_1.length + ([114]).length := List.length_append
                          simp only [List.length_cons, List.length_nil] at ln_2
                          refine z_callV (n := 1) (As := [.int (nI 114)]) (rest := []) ⟨hx, hb, hml, hown, hts⟩ (m_put (O := O_1) (b9 := 114) l g h1 mh_1 oh_1 (by omega) (by omega)) (z_in k_1069 rfl) (z_in k_7 rfl) (z_in k_1066 rfl) (z_in k_1068 rfl) (z_in ks_53 rfl) (by decide +kernel) ⟨by first | exact Nat.le_of_ble_eq_true rfl | (dsimp only; omega) | omega, by first | exact Nat.le_of_ble_eq_true rfl | (dsimp only; omega) | omega⟩ hK hE hw hA rfl mh_1 rfl hl.1 (Nat.le_of_ble_eq_true rfl) d_M_putWord_28 ⟨by first | exact Nat.le_of_ble_eq_true rfl | (dsimp only; omega) | omega, by first | exact Nat.le_of_ble_eq_true rfl | (dsimp only; omega) | omega⟩ rfl (fun r9 h9 H locs hp hw => ?_)
                          obtain ⟨r8, m8, o8, k8⟩ := hp
                          subst r8
                          obtain ⟨h2, e7⟩ : ∃ x9, x9 = h9 := ⟨_, rfl⟩
                          subst e7
                          generalize eO_2 : O_1 ++ ([114]) = O_2 at m8 o8 ln_2
                          have oh_2 := o8
                          have mh_2 := m8
                          have kk2 : z_K (fun y => y = 20 ∨ y = 35) h h2 := kk1.tr k8
                          refine W.eq (g2 := F0 m 31 ls []) rfl ?_
                          refine lv_iinc (v := 8) (lv' := [(3, .int 8), (0, .ref mo), (1, .long 1953658213)]) hx hb d_M_putWord_31 hl (k := 0) rfl (by decide) (by decide) rfl (fun ls hl => ?_)
                          refine lv_goto (tgt := 3) hx hb d_M_putWord_34 (by decide) ?_
                          refine lv_iload_n hx hb d_M_putWord_3 rfl (lv_at hl 0 rfl) ?_
                          refine lv_if_lt (tgt := 37) hx hb d_M_putWord_4 (by decide) (fun c_4 => ?_) (fun c_4 => ?_)
                          · -- 4: True
                            exact absurd c_4 (by decide)
                          · -- 4: False
                            refine lv_lload_n hx hb d_M_putWord_7 rfl (lv_at hl 2 rfl) ?_
                            refine lv_iload_n hx hb d_M_putWord_8 rfl (lv_at hl 0 rfl) ?_
                            refine lv_lshr hx hb d_M_putWord_9 rfl ?_
                            refine lv_ldc2 hx hb hown (hts _ (z_in k_1086 rfl)) d_M_putWord_10 ?_
                            refine lv_land hx hb d_M_putWord_13 ?_
                            refine z_topl (y := 117) (by decide) ?_
                            refine lv_lconst (v := 0) hx hb d_M_putWord_14 (by decide) ?_
                            refine W.lcmp hx hb d_M_putWord_15 ?_
                            refine lv_if_eq (tgt := 31) hx hb d_M_putWord_16 (by decide) (fun c_16 => ?_) (fun c_16 => ?_)
                            · -- 16: True
                              have c_16 : (117 : Int64) = 0 := (lg_cmp_eq _ _).mp c_16
                              exact absurd c_16 (by decide)
                            · -- 16: False
                              have c_16 : ¬ ((117 : Int64) = 0) := fun z => c_16 ((lg_cmp_eq _ _).mpr z)
                              refine lv_aload_n hx hb d_M_putWord_19 rfl (lv_at hl 1 rfl) ?_
                              refine lv_lload_n hx hb d_M_putWord_20 rfl (lv_at hl 2 rfl) ?_
                              refine lv_iload_n hx hb d_M_putWord_21 rfl (lv_at hl 0 rfl) ?_
                              refine lv_lshr hx hb d_M_putWord_22 rfl ?_
                              refine lv_ldc2 hx hb hown (hts _ (z_in k_1086 rfl)) d_M_putWord_23 ?_
                              refine lv_land hx hb d_M_putWord_26 ?_
                              refine z_topl (y := 117) (by decide) ?_
                              refine lv_l2i hx hb d_M_putWord_27 rfl ?_
                              refine z_topi (y := nI 117) (by decide) ?_
                              have ln_3 : (O_2 ++ ([117])).length = O_2.length + ([117]).length := List.length_append
                              simp only [List.length_cons, List.length_nil] at ln_3
                              refine z_callV (n := 1) (As := [.int (nI 117)]) (rest := []) ⟨hx, hb, hml, hown, hts⟩ (m_put (O := O_2) (b9 := 117) l g h2 mh_2 oh_2 (by omega) (by omega)) (z_in k_1069 rfl) (z_in k_7 rfl) (z_in k_1066 rfl) (z_in k_1068 rfl) (z_in ks_53 rfl) (by decide +kernel) ⟨by first | exact Nat.le_of_ble_eq_true rfl | (dsimp only; omega) | omega, by first | exact Nat.le_of_ble_eq_true rfl | (dsimp only; omega) | omega⟩ hK hE hw hA rfl mh_2 rfl hl.1 (Nat.le_of_ble_eq_true rfl) d_M_putWord_28 ⟨by first | exact Nat.le_of_ble_eq_true rfl | (dsimp only; omega) | omega, by first | exact Nat.le_of_ble_eq_true rfl | (dsimp only; omega) | omega⟩ rfl (fun r9 h9 H locs hp hw => ?_)
                              obtain ⟨r8, m8, o8, k8⟩ := hp
                              subst r8
                              obtain ⟨h3, e7⟩ : ∃ x9, x9 = h9 := ⟨_, rfl⟩
                              subst e7
                              generalize eO_3 : O_2 ++ ([117]) = O_3 at m8 o8 ln_3
                              have oh_3 := o8
                              have mh_3 := m8
                              have kk3 : z_K (fun y => y = 20 ∨ y = 35) h h3 := kk2.tr k8
                              refine W.eq (g2 := F0 m 31 ls []) rfl ?_
                              refine lv_iinc (v := 0) (lv' := [(3, .int 0), (0, .ref mo), (1, .long 1953658213)]) hx hb d_M_putWord_31 hl (k := 0) rfl (by decide) (by decide) rfl (fun ls hl => ?_)
                              refine lv_goto (tgt := 3) hx hb d_M_putWord_34 (by decide) ?_
                              refine lv_iload_n hx hb d_M_putWord_3 rfl (lv_at hl 0 rfl) ?_
                              refine lv_if_lt (tgt := 37) hx hb d_M_putWord_4 (by decide) (fun c_4 => ?_) (fun c_4 => ?_)
                              · -- 4: True
                                exact absurd c_4 (by decide)
                              · -- 4: False
                                refine lv_lload_n hx hb d_M_putWord_7 rfl (lv_at hl 2 rfl) ?_
                                refine lv_iload_n hx hb d_M_putWord_8 rfl (lv_at hl 0 rfl) ?_
                                refine lv_lshr hx hb d_M_putWord_9 rfl ?_
                                refine lv_ldc2 hx hb hown (hts _ (z_in k_1086 rfl)) d_M_putWord_10 ?_
                                refine lv_land hx hb d_M_putWord_13 ?_
                                refine z_topl (y := 101) (by decide) ?_
                                refine lv_lconst (v := 0) hx hb d_M_putWord_14 (by decide) ?_
                                refine W.lcmp hx hb d_M_putWord_15 ?_
                                refine lv_if_eq (tgt := 31) hx hb d_M_putWord_16 (by decide) (fun c_16 => ?_) (fun c_16 => ?_)
                                · -- 16: True
                                  have c_16 : (101 : Int64) = 0 := (lg_cmp_eq _ _).mp c_16
                                  exact absurd c_16 (by decide)
                                · -- 16: False
                                  have c_16 : ¬ ((101 : Int64) = 0) := fun z => c_16 ((lg_cmp_eq _ _).mpr z)
                                  refine lv_aload_n hx hb d_M_putWord_19 rfl (lv_at hl 1 rfl) ?_
                                  refine lv_lload_n hx hb d_M_putWord_20 rfl (lv_at hl 2 rfl) ?_
                                  refine lv_iload_n hx hb d_M_putWord_21 rfl (lv_at hl 0 rfl) ?_
                                  refine lv_lshr hx hb d_M_putWord_22 rfl ?_
                                  refine lv_ldc2 hx hb hown (hts _ (z_in k_1086 rfl)) d_M_putWord_23 ?_
                                  refine lv_land hx hb d_M_putWord_26 ?_
                                  refine z_topl (y := 101) (by decide) ?_
                                  refine lv_l2i hx hb d_M_putWord_27 rfl ?_
                                  refine z_topi (y := nI 101) (by decide) ?_
                                  have ln_4 : (O_3 ++ ([101])).length = O_3.length + ([101]).length := List.length_append
                                  simp only [List.length_cons, List.length_nil] at ln_4
                                  refine z_callV (n := 1) (As := [.int (nI 101)]) (rest := []) ⟨hx, hb, hml, hown, hts⟩ (m_put (O := O_3) (b9 := 101) l g h3 mh_3 oh_3 (by omega) (by omega)) (z_in k_1069 rfl) (z_in k_7 rfl) (z_in k_1066 rfl) (z_in k_1068 rfl) (z_in ks_53 rfl) (by decide +kernel) ⟨by first | exact Nat.le_of_ble_eq_true rfl | (dsimp only; omega) | omega, by first | exact Nat.le_of_ble_eq_true rfl | (dsimp only; omega) | omega⟩ hK hE hw hA rfl mh_3 rfl hl.1 (Nat.le_of_ble_eq_true rfl) d_M_putWord_28 ⟨by first | exact Nat.le_of_ble_eq_true rfl | (dsimp only; omega) | omega, by first | exact Nat.le_of_ble_eq_true rfl | (dsimp only; omega) | omega⟩ rfl (fun r9 h9 H locs hp hw => ?_)
                                  obtain ⟨r8, m8, o8, k8⟩ := hp
                                  subst r8
                                  obtain ⟨h4, e7⟩ : ∃ x9, x9 = h9 := ⟨_, rfl⟩
                                  subst e7
                                  generalize eO_4 : O_3 ++ ([101]) = O_4 at m8 o8 ln_4
                                  have oh_4 := o8
                                  have mh_4 := m8
                                  have kk4 : z_K (fun y => y = 20 ∨ y = 35) h h4 := kk3.tr k8
                                  refine W.eq (g2 := F0 m 31 ls []) rfl ?_
                                  refine lv_iinc (v := (-8)) (lv' := [(3, .int (-8)), (0, .ref mo), (1, .long 1953658213)]) hx hb d_M_putWord_31 hl (k := 0) rfl (by decide) (by decide) rfl (fun ls hl => ?_)
                                  refine lv_goto (tgt := 3) hx hb d_M_putWord_34 (by decide) ?_
                                  refine lv_iload_n hx hb d_M_putWord_3 rfl (lv_at hl 0 rfl) ?_
                                  refine lv_if_lt (tgt := 37) hx hb d_M_putWord_4 (by decide) (fun c_4 => ?_) (fun c_4 => ?_)
                                  · -- 4: True
                                    have eF : O ++ (wdO 8) = O_4 := by rw [← eO_4, ← eO_3, ← eO_2, ← eO_1]; rw [show wdO 8 = [116, 114, 117, 101] by decide]; simp
                                    exact z_vret hx hb hr hlocks hw ⟨rfl, by rw [eF]; exact mh_4, eF ▸ oh_4, kk4⟩ (by decide) (by decide) d_M_putWord_37
                                  · -- 4: False
                                    exact absurd (by decide) c_4
                · -- 16: False
                  have c_16 : ¬ ((0 : Int64) = 0) := fun z => c_16 ((lg_cmp_eq _ _).mpr z)
                  exact absurd rfl c_16
            · -- 16: False
              have c_16 : ¬ ((0 : Int64) = 0) := fun z => c_16 ((lg_cmp_eq _ _).mpr z)
              exact absurd rfl c_16
        · -- 16: False
          have c_16 : ¬ ((0 : Int64) = 0) := fun z => c_16 ((lg_cmp_eq _ _).mpr z)
          exact absurd rfl c_16
    · -- 16: False
      have c_16 : ¬ ((0 : Int64) = 0) := fun z => c_16 ((lg_cmp_eq _ _).mpr z)
      exact absurd rfl c_16

set_option maxHeartbeats 1000000 in
set_option maxRecDepth 100000 in
theorem m_putFalse (l : Launch) (g : z_G) (h : z_H) {mo : Nat} {ma : Nat → Nat} {cod tpd fls cls9 ffl fcl nds sai il : Int32} {siz at9 : Int32} {O : List Nat}  (hmo : h mo = some ((20, 0), .inr (11, mF ma cod tpd siz fls cls9 ffl fcl nds sai (nI O.length) at9 il))) (hOu : MOu g h ma O) (hl9 : O.length + (wdO 9).length ≤ 160000)  : z_C l y_M_putWord prog_13_method_52_code 4 (Option.none : Option Jvm.ClassFile.FieldType) 1 40 0 0 g [.ref mo, .long 439721161573] h (fun x h1 => x = none ∧ h1 mo = some ((20, 0), .inr (11, mF ma cod tpd siz fls cls9 ffl fcl nds sai (nI ((O ++ (wdO 9)).length)) at9 il)) ∧ MOu g h1 ma (O ++ (wdO 9)) ∧ z_K (fun y => y = 20 ∨ y = 35) h h1) := by
  refine z_C.of (by decide) (Nat.le_of_ble_eq_true rfl) (fun pg en s m below meth cd A ls hx hb hml hr hts hown hlocks hnm hK hE hA hw hl => ?_)
  have hl : lv_has ls 4 [(0, .ref mo), (1, .long 439721161573)] := hl
  have lW : (wdO 9).length = 5 := by decide
  have kk0 : z_K (fun y => y = 20 ∨ y = 35) h h := z_K.rf
  refine lv_bipush (v := 56) hx hb d_M_putWord_0 (by decide) ?_
  refine lv_istore_n (lv' := [(3, .int 56), (0, .ref mo), (1, .long 439721161573)]) hx hb d_M_putWord_2 rfl hl (by decide) rfl (fun ls hl => ?_)
  refine lv_iload_n hx hb d_M_putWord_3 rfl (lv_at hl 0 rfl) ?_
  refine lv_if_lt (tgt := 37) hx hb d_M_putWord_4 (by decide) (fun c_4 => ?_) (fun c_4 => ?_)
  · -- 4: True
    exact absurd c_4 (by decide)
  · -- 4: False
    refine lv_lload_n hx hb d_M_putWord_7 rfl (lv_at hl 2 rfl) ?_
    refine lv_iload_n hx hb d_M_putWord_8 rfl (lv_at hl 0 rfl) ?_
    refine lv_lshr hx hb d_M_putWord_9 rfl ?_
    refine lv_ldc2 hx hb hown (hts _ (z_in k_1086 rfl)) d_M_putWord_10 ?_
    refine lv_land hx hb d_M_putWord_13 ?_
    refine z_topl (y := 0) (by decide) ?_
    refine lv_lconst (v := 0) hx hb d_M_putWord_14 (by decide) ?_
    refine W.lcmp hx hb d_M_putWord_15 ?_
    refine lv_if_eq (tgt := 31) hx hb d_M_putWord_16 (by decide) (fun c_16 => ?_) (fun c_16 => ?_)
    · -- 16: True
      have c_16 : (0 : Int64) = 0 := (lg_cmp_eq _ _).mp c_16
      refine lv_iinc (v := 48) (lv' := [(3, .int 48), (0, .ref mo), (1, .long 439721161573)]) hx hb d_M_putWord_31 hl (k := 0) rfl (by decide) (by decide) rfl (fun ls hl => ?_)
      refine lv_goto (tgt := 3) hx hb d_M_putWord_34 (by decide) ?_
      refine lv_iload_n hx hb d_M_putWord_3 rfl (lv_at hl 0 rfl) ?_
      refine lv_if_lt (tgt := 37) hx hb d_M_putWord_4 (by decide) (fun c_4 => ?_) (fun c_4 => ?_)
      · -- 4: True
        exact absurd c_4 (by decide)
      · -- 4: False
        refine lv_lload_n hx hb d_M_putWord_7 rfl (lv_at hl 2 rfl) ?_
        refine lv_iload_n hx hb d_M_putWord_8 rfl (lv_at hl 0 rfl) ?_
        refine lv_lshr hx hb d_M_putWord_9 rfl ?_
        refine lv_ldc2 hx hb hown (hts _ (z_in k_1086 rfl)) d_M_putWord_10 ?_
        refine lv_land hx hb d_M_putWord_13 ?_
        refine z_topl (y := 0) (by decide) ?_
        refine lv_lconst (v := 0) hx hb d_M_putWord_14 (by decide) ?_
        refine W.lcmp hx hb d_M_putWord_15 ?_
        refine lv_if_eq (tgt := 31) hx hb d_M_putWord_16 (by decide) (fun c_16 => ?_) (fun c_16 => ?_)
        · -- 16: True
          have c_16 : (0 : Int64) = 0 := (lg_cmp_eq _ _).mp c_16
          refine lv_iinc (v := 40) (lv' := [(3, .int 40), (0, .ref mo), (1, .long 439721161573)]) hx hb d_M_putWord_31 hl (k := 0) rfl (by decide) (by decide) rfl (fun ls hl => ?_)
          refine lv_goto (tgt := 3) hx hb d_M_putWord_34 (by decide) ?_
          refine lv_iload_n hx hb d_M_putWord_3 rfl (lv_at hl 0 rfl) ?_
          refine lv_if_lt (tgt := 37) hx hb d_M_putWord_4 (by decide) (fun c_4 => ?_) (fun c_4 => ?_)
          · -- 4: True
            exact absurd c_4 (by decide)
          · -- 4: False
            refine lv_lload_n hx hb d_M_putWord_7 rfl (lv_at hl 2 rfl) ?_
            refine lv_iload_n hx hb d_M_putWord_8 rfl (lv_at hl 0 rfl) ?_
            refine lv_lshr hx hb d_M_putWord_9 rfl ?_
            refine lv_ldc2 hx hb hown (hts _ (z_in k_1086 rfl)) d_M_putWord_10 ?_
            refine lv_land hx hb d_M_putWord_13 ?_
            refine z_topl (y := 0) (by decide) ?_
            refine lv_lconst (v := 0) hx hb d_M_putWord_14 (by decide) ?_
            refine W.lcmp hx hb d_M_putWord_15 ?_
            refine lv_if_eq (tgt := 31) hx hb d_M_putWord_16 (by decide) (fun c_16 => ?_) (fun c_16 => ?_)
            · -- 16: True
              have c_16 : (0 : Int64) = 0 := (lg_cmp_eq _ _).mp c_16
              refine lv_iinc (v := 32) (lv' := [(3, .int 32), (0, .ref mo), (1, .long 439721161573)]) hx hb d_M_putWord_31 hl (k := 0) rfl (by decide) (by decide) rfl (fun ls hl => ?_)
              refine lv_goto (tgt := 3) hx hb d_M_putWord_34 (by decide) ?_
              refine lv_iload_n hx hb d_M_putWord_3 rfl (lv_at hl 0 rfl) ?_
              refine lv_if_lt (tgt := 37) hx hb d_M_putWord_4 (by decide) (fun c_4 => ?_) (fun c_4 => ?_)
              · -- 4: True
                exact absurd c_4 (by decide)
              · -- 4: False
                refine lv_lload_n hx hb d_M_putWord_7 rfl (lv_at hl 2 rfl) ?_
                refine lv_iload_n hx hb d_M_putWord_8 rfl (lv_at hl 0 rfl) ?_
                refine lv_lshr hx hb d_M_putWord_9 rfl ?_
                refine lv_ldc2 hx hb hown (hts _ (z_in k_1086 rfl)) d_M_putWord_10 ?_
                refine lv_land hx hb d_M_putWord_13 ?_
                refine z_topl (y := 102) (by decide) ?_
                refine lv_lconst (v := 0) hx hb d_M_putWord_14 (by decide) ?_
                refine W.lcmp hx hb d_M_putWord_15 ?_
                refine lv_if_eq (tgt := 31) hx hb d_M_putWord_16 (by decide) (fun c_16 => ?_) (fun c_16 => ?_)
                · -- 16: True
                  have c_16 : (102 : Int64) = 0 := (lg_cmp_eq _ _).mp c_16
                  exact absurd c_16 (by decide)
                · -- 16: False
                  have c_16 : ¬ ((102 : Int64) = 0) := fun z => c_16 ((lg_cmp_eq _ _).mpr z)
                  refine lv_aload_n hx hb d_M_putWord_19 rfl (lv_at hl 1 rfl) ?_
                  refine lv_lload_n hx hb d_M_putWord_20 rfl (lv_at hl 2 rfl) ?_
                  refine lv_iload_n hx hb d_M_putWord_21 rfl (lv_at hl 0 rfl) ?_
                  refine lv_lshr hx hb d_M_putWord_22 rfl ?_
                  refine lv_ldc2 hx hb hown (hts _ (z_in k_1086 rfl)) d_M_putWord_23 ?_
                  refine lv_land hx hb d_M_putWord_26 ?_
                  refine z_topl (y := 102) (by decide) ?_
                  refine lv_l2i hx hb d_M_putWord_27 rfl ?_
                  refine z_topi (y := nI 102) (by decide) ?_
                  have ln_1 : (O ++ ([102])).length = O.length + ([102]).length := List.length_append
                  simp only [List.length_cons, List.length_nil] at ln_1
                  refine z_callV (n := 1) (As := [.int (nI 102)]) (rest := []) ⟨hx, hb, hml, hown, hts⟩ (m_put (O := O) (b9 := 102) l g h hmo hOu (by omega) (by omega)) (z_in k_1069 rfl) (z_in k_7 rfl) (z_in k_1066 rfl) (z_in k_1068 rfl) (z_in ks_53 rfl) (by decide +kernel) ⟨by first | exact Nat.le_of_ble_eq_true rfl | (dsimp only; omega) | omega, by first | exact Nat.le_of_ble_eq_true rfl | (dsimp only; omega) | omega⟩ hK hE hw hA rfl hmo rfl hl.1 (Nat.le_of_ble_eq_true rfl) d_M_putWord_28 ⟨by first | exact Nat.le_of_ble_eq_true rfl | (dsimp only; omega) | omega, by first | exact Nat.le_of_ble_eq_true rfl | (dsimp only; omega) | omega⟩ rfl (fun r9 h9 H locs hp hw => ?_)
                  obtain ⟨r8, m8, o8, k8⟩ := hp
                  subst r8
                  obtain ⟨h1, e7⟩ : ∃ x9, x9 = h9 := ⟨_, rfl⟩
                  subst e7
                  generalize eO_1 : O ++ ([102]) = O_1 at m8 o8 ln_1
                  have oh_1 := o8
                  have mh_1 := m8
                  have kk1 : z_K (fun y => y = 20 ∨ y = 35) h h1 := kk0.tr k8
                  refine W.eq (g2 := F0 m 31 ls []) rfl ?_
                  refine lv_iinc (v := 24) (lv' := [(3, .int 24), (0, .ref mo), (1, .long 439721161573)]) hx hb d_M_putWord_31 hl (k := 0) rfl (by decide) (by decide) rfl (fun ls hl => ?_)
                  refine lv_goto (tgt := 3) hx hb d_M_putWord_34 (by decide) ?_
                  refine lv_iload_n hx hb d_M_putWord_3 rfl (lv_at hl 0 rfl) ?_
                  refine lv_if_lt (tgt := 37) hx hb d_M_putWord_4 (by decide) (fun c_4 => ?_) (fun c_4 => ?_)
                  · -- 4: True
                    exact absurd c_4 (by decide)
                  · -- 4: False
                    refine lv_lload_n hx hb d_M_putWord_7 rfl (lv_at hl 2 rfl) ?_
                    refine lv_iload_n hx hb d_M_putWord_8 rfl (lv_at hl 0 rfl) ?_
                    refine lv_lshr hx hb d_M_putWord_9 rfl ?_
                    refine lv_ldc2 hx hb hown (hts _ (z_in k_1086 rfl)) d_M_putWord_10 ?_
                    refine lv_land hx hb d_M_putWord_13 ?_
                    refine z_topl (y := 97) (by decide) ?_
                    refine lv_lconst (v := 0) hx hb d_M_putWord_14 (by decide) ?_
                    refine W.lcmp hx hb d_M_putWord_15 ?_
                    refine lv_if_eq (tgt := 31) hx hb d_M_putWord_16 (by decide) (fun c_16 => ?_) (fun c_16 => ?_)
                    · -- 16: True
                      have c_16 : (97 : Int64) = 0 := (lg_cmp_eq _ _).mp c_16
                      exact absurd c_16 (by decide)
                    · -- 16: False
                      have c_16 : ¬ ((97 : Int64) = 0) := fun z => c_16 ((lg_cmp_eq _ _).mpr z)
                      refine lv_aload_n hx hb d_M_putWord_19 rfl (lv_at hl 1 rfl) ?_
                      refine lv_lload_n hx hb d_M_putWord_20 rfl (lv_at hl 2 rfl) ?_
                      refine lv_iload_n hx hb d_M_putWord_21 rfl (lv_at hl 0 rfl) ?_
                      refine lv_lshr hx hb d_M_putWord_22 rfl ?_
                      refine lv_ldc2 hx hb hown (hts _ (z_in k_1086 rfl)) d_M_putWord_23 ?_
                      refine lv_land hx hb d_M_putWord_26 ?_
                      refine z_topl (y := 97) (by decide) ?_
                      refine lv_l2i hx hb d_M_putWord_27 rfl ?_
                      refine z_topi (y := nI 97) (by decide) ?_
                      have ln_2 : (O_1 ++ ([97])).length = O_1.length + ([97]).length := List.length_append
                      simp only [List.length_cons, List.length_nil] at ln_2
                      refine z_callV (n := 1) (As := [.int (nI 97)]) (rest := []) ⟨hx, hb, hml, hown, hts⟩ (m_put (O := O_1) (b9 := 97) l g h1 mh_1 oh_1 (by omega) (by omega)) (z_in k_1069 rfl) (z_in k_7 rfl) (z_in k_1066 rfl) (z_in k_1068 rfl) (z_in ks_53 rfl) (by decide +kernel) ⟨by first | exact Nat.le_of_ble_eq_true rfl | (dsimp only; omega) | omega, by first | exact Nat.le_of_ble_eq_true rfl | (dsimp only; omega) | omega⟩ hK hE hw hA rfl mh_1 rfl hl.1 (Nat.le_of_ble_eq_true rfl) d_M_putWord_28 ⟨by first | exact Nat.le_of_ble_eq_true rfl | (dsimp only; omega) | omega, by first | exact Nat.le_of_ble_eq_true rfl | (dsimp only; omega) | omega⟩ rfl (fun r9 h9 H locs hp hw => ?_)
                      obtain ⟨r8, m8, o8, k8⟩ := hp
                      subst r8
                      obtain ⟨h2, e7⟩ : ∃ x9, x9 = h9 := ⟨_, rfl⟩
                      subst e7
                      generalize eO_2 : O_1 ++ ([97]) = O_2 at m8 o8 ln_2
                      have oh_2 := o8
                      have mh_2 := m8
                      have kk2 : z_K (fun y => y = 20 ∨ y = 35) h h2 := kk1.tr k8
                      refine W.eq (g2 := F0 m 31 ls []) rfl ?_
                      refine lv_iinc (v := 16) (lv' := [(3, .int 16), (0, .ref mo), (1, .long 439721161573)]) hx hb d_M_putWord_31 hl (k := 0) rfl (by decide) (by decide) rfl (fun ls hl => ?_)
                      refine lv_goto (tgt := 3) hx hb d_M_putWord_34 (by decide) ?_
                      refine lv_iload_n hx hb d_M_putWord_3 rfl (lv_at hl 0 rfl) ?_
                      refine lv_if_lt (tgt := 37) hx hb d_M_putWord_4 (by decide) (fun c_4 => ?_) (fun c_4 => ?_)
                      · -- 4: True
                        exact absurd c_4 (by decide)
                      · -- 4: False
                        refine lv_lload_n hx hb d_M_putWord_7 rfl (lv_at hl 2 rfl) ?_
                        refine lv_iload_n hx hb d_M_putWord_8 rfl (lv_at hl 0 rfl) ?_
                        refine lv_lshr hx hb d_M_putWord_9 rfl ?_
                        refine lv_ldc2 hx hb hown (hts _ (z_in k_1086 rfl)) d_M_putWord_10 ?_
                        refine lv_land hx hb d_M_putWord_13 ?_
                        refine z_topl (y := 108) (by decide) ?_
                        refine lv_lconst (v := 0) hx hb d_M_putWord_14 (by decide) ?_
                        refine W.lcmp hx hb d_M_putWord_15 ?_
                        refine lv_if_eq (tgt := 31) hx hb d_M_putWord_16 (by decide) (fun c_16 => ?_) (fun c_16 => ?_)
                        · -- 16: True
                          have c_16 : (108 : Int64) = 0 := (lg_cmp_eq _ _).mp c_16
                          exact absurd c_16 (by decide)
                        · -- 16: False
                          have c_16 : ¬ ((108 : Int64) = 0) := fun z => c_16 ((lg_cmp_eq _ _).mpr z)
                          refine lv_aload_n hx hb d_M_putWord_19 rfl (lv_at hl 1 rfl) ?_
                          refine lv_lload_n hx hb d_M_putWord_20 rfl (lv_at hl 2 rfl) ?_
                          refine lv_iload_n hx hb d_M_putWord_21 rfl (lv_at hl 0 rfl) ?_
                          refine lv_lshr hx hb d_M_putWord_22 rfl ?_
                          refine lv_ldc2 hx hb hown (hts _ (z_in k_1086 rfl)) d_M_putWord_23 ?_
                          refine lv_land hx hb d_M_putWord_26 ?_
                          refine z_topl (y := 108) (by decide) ?_
                          refine lv_l2i hx hb d_M_putWord_27 rfl ?_
                          refine z_topi (y := nI 108) (by decide) ?_
                          have ln_3 : (O_2 ++ ([108])).length = O_2.length + ([108]).length := List.length_append
                          simp only [List.length_cons, List.length_nil] at ln_3
                          refine z_callV (n := 1) (As := [.int (nI 108)]) (rest := []) ⟨hx, hb, hml, hown, hts⟩ (m_put (O := O_2) (b9 := 108) l g h2 mh_2 oh_2 (by omega) (by omega)) (z_in k_1069 rfl) (z_in k_7 rfl) (z_in k_1066 rfl) (z_in k_1068 rfl) (z_in ks_53 rfl) (by decide +kernel) ⟨by first | exact Nat.le_of_ble_eq_true rfl | (dsimp only; omega) | omega, by first | exact Nat.le_of_ble_eq_true rfl | (dsimp only; omega) | omega⟩ hK hE hw hA rfl mh_2 rfl hl.1 (Nat.le_of_ble_eq_true rfl) d_M_putWord_28 ⟨by first | exact Nat.le_of_ble_eq_true rfl | (dsimp only; omega) | omega, by first | exact Nat.le_of_ble_eq_true rfl | (dsimp only; omega) | omega⟩ rfl (fun r9 h9 H locs hp hw => ?_)
                          obtain ⟨r8, m8, o8, k8⟩ := hp
                          subst r8
                          obtain ⟨h3, e7⟩ : ∃ x9, x9 = h9 := ⟨_, rfl⟩
                          subst e7
                          generalize eO_3 : O_2 ++ ([108]) = O_3 at m8 o8 ln_3
                          have oh_3 := o8
                          have mh_3 := m8
                          have kk3 : z_K (fun y => y = 20 ∨ y = 35) h h3 := kk2.tr k8
                          refine W.eq (g2 := F0 m 31 ls []) rfl ?_
                          refine lv_iinc (v := 8) (lv' := [(3, .int 8), (0, .ref mo), (1, .long 439721161573)]) hx hb d_M_putWord_31 hl (k := 0) rfl (by decide) (by decide) rfl (fun ls hl => ?_)
                          refine lv_goto (tgt := 3) hx hb d_M_putWord_34 (by decide) ?_
                          refine lv_iload_n hx hb d_M_putWord_3 rfl (lv_at hl 0 rfl) ?_
                          refine lv_if_lt (tgt := 37) hx hb d_M_putWord_4 (by decide) (fun c_4 => ?_) (fun c_4 => ?_)
                          · -- 4: True
                            exact absurd c_4 (by decide)
                          · -- 4: False
                            refine lv_lload_n hx hb d_M_putWord_7 rfl (lv_at hl 2 rfl) ?_
                            refine lv_iload_n hx hb d_M_putWord_8 rfl (lv_at hl 0 rfl) ?_
                            refine lv_lshr hx hb d_M_putWord_9 rfl ?_
                            refine lv_ldc2 hx hb hown (hts _ (z_in k_1086 rfl)) d_M_putWord_10 ?_
                            refine lv_land hx hb d_M_putWord_13 ?_
                            refine z_topl (y := 115) (by decide) ?_
                            refine lv_lconst (v := 0) hx hb d_M_putWord_14 (by decide) ?_
                            refine W.lcmp hx hb d_M_putWord_15 ?_
                            refine lv_if_eq (tgt := 31) hx hb d_M_putWord_16 (by decide) (fun c_16 => ?_) (fun c_16 => ?_)
                            · -- 16: True
                              have c_16 : (115 : Int64) = 0 := (lg_cmp_eq _ _).mp c_16
                              exact absurd c_16 (by decide)
                            · -- 16: False
                              have c_16 : ¬ ((115 : Int64) = 0) := fun z => c_16 ((lg_cmp_eq _ _).mpr z)
                              refine lv_aload_n hx hb d_M_putWord_19 rfl (lv_at hl 1 rfl) ?_
                              refine lv_lload_n hx hb d_M_putWord_20 rfl (lv_at hl 2 rfl) ?_
                              refine lv_iload_n hx hb d_M_putWord_21 rfl (lv_at hl 0 rfl) ?_
                              refine lv_lshr hx hb d_M_putWord_22 rfl ?_
                              refine lv_ldc2 hx hb hown (hts _ (z_in k_1086 rfl)) d_M_putWord_23 ?_
                              refine lv_land hx hb d_M_putWord_26 ?_
                              refine z_topl (y := 115) (by decide) ?_
                              refine lv_l2i hx hb d_M_putWord_27 rfl ?_
                              refine z_topi (y := nI 115) (by decide) ?_
                              have ln_4 : (O_3 ++ ([115])).length = O_3.length + ([115]).length := List.length_append
                              simp only [List.length_cons, List.length_nil] at ln_4
                              refine z_callV (n := 1) (As := [.int (nI 115)]) (rest := []) ⟨hx, hb, hml, hown, hts⟩ (m_put (O := O_3) (b9 := 115) l g h3 mh_3 oh_3 (by omega) (by omega)) (z_in k_1069 rfl) (z_in k_7 rfl) (z_in k_1066 rfl) (z_in k_1068 rfl) (z_in ks_53 rfl) (by decide +kernel) ⟨by first | exact Nat.le_of_ble_eq_true rfl | (dsimp only; omega) | omega, by first | exact Nat.le_of_ble_eq_true rfl | (dsimp only; omega) | omega⟩ hK hE hw hA rfl mh_3 rfl hl.1 (Nat.le_of_ble_eq_true rfl) d_M_putWord_28 ⟨by first | exact Nat.le_of_ble_eq_true rfl | (dsimp only; omega) | omega, by first | exact Nat.le_of_ble_eq_true rfl | (dsimp only; omega) | omega⟩ rfl (fun r9 h9 H locs hp hw => ?_)
                              obtain ⟨r8, m8, o8, k8⟩ := hp
                              subst r8
                              obtain ⟨h4, e7⟩ : ∃ x9, x9 = h9 := ⟨_, rfl⟩
                              subst e7
                              generalize eO_4 : O_3 ++ ([115]) = O_4 at m8 o8 ln_4
                              have oh_4 := o8
                              have mh_4 := m8
                              have kk4 : z_K (fun y => y = 20 ∨ y = 35) h h4 := kk3.tr k8
                              refine W.eq (g2 := F0 m 31 ls []) rfl ?_
                              refine lv_iinc (v := 0) (lv' := [(3, .int 0), (0, .ref mo), (1, .long 439721161573)]) hx hb d_M_putWord_31 hl (k := 0) rfl (by decide) (by decide) rfl (fun ls hl => ?_)
                              refine lv_goto (tgt := 3) hx hb d_M_putWord_34 (by decide) ?_
                              refine lv_iload_n hx hb d_M_putWord_3 rfl (lv_at hl 0 rfl) ?_
                              refine lv_if_lt (tgt := 37) hx hb d_M_putWord_4 (by decide) (fun c_4 => ?_) (fun c_4 => ?_)
                              · -- 4: True
                                exact absurd c_4 (by decide)
                              · -- 4: False
                                refine lv_lload_n hx hb d_M_putWord_7 rfl (lv_at hl 2 rfl) ?_
                                refine lv_iload_n hx hb d_M_putWord_8 rfl (lv_at hl 0 rfl) ?_
                                refine lv_lshr hx hb d_M_putWord_9 rfl ?_
                                refine lv_ldc2 hx hb hown (hts _ (z_in k_1086 rfl)) d_M_putWord_10 ?_
                                refine lv_land hx hb d_M_putWord_13 ?_
                                refine z_topl (y := 101) (by decide) ?_
                                refine lv_lconst (v := 0) hx hb d_M_putWord_14 (by decide) ?_
                                refine W.lcmp hx hb d_M_putWord_15 ?_
                                refine lv_if_eq (tgt := 31) hx hb d_M_putWord_16 (by decide) (fun c_16 => ?_) (fun c_16 => ?_)
                                · -- 16: True
                                  have c_16 : (101 : Int64) = 0 := (lg_cmp_eq _ _).mp c_16
                                  exact absurd c_16 (by decide)
                                · -- 16: False
                                  have c_16 : ¬ ((101 : Int64) = 0) := fun z => c_16 ((lg_cmp_eq _ _).mpr z)
                                  refine lv_aload_n hx hb d_M_putWord_19 rfl (lv_at hl 1 rfl) ?_
                                  refine lv_lload_n hx hb d_M_putWord_20 rfl (lv_at hl 2 rfl) ?_
                                  refine lv_iload_n hx hb d_M_putWord_21 rfl (lv_at hl 0 rfl) ?_
                                  refine lv_lshr hx hb d_M_putWord_22 rfl ?_
                                  refine lv_ldc2 hx hb hown (hts _ (z_in k_1086 rfl)) d_M_putWord_23 ?_
                                  refine lv_land hx hb d_M_putWord_26 ?_
                                  refine z_topl (y := 101) (by decide) ?_
                                  refine lv_l2i hx hb d_M_putWord_27 rfl ?_
                                  refine z_topi (y := nI 101) (by decide) ?_
                                  have ln_5 : (O_4 ++ ([101])).length = O_4.length + ([101]).length := List.length_append
                                  simp only [List.length_cons, List.length_nil] at ln_5
                                  refine z_callV (n := 1) (As := [.int (nI 101)]) (rest := []) ⟨hx, hb, hml, hown, hts⟩ (m_put (O := O_4) (b9 := 101) l g h4 mh_4 oh_4 (by omega) (by omega)) (z_in k_1069 rfl) (z_in k_7 rfl) (z_in k_1066 rfl) (z_in k_1068 rfl) (z_in ks_53 rfl) (by decide +kernel) ⟨by first | exact Nat.le_of_ble_eq_true rfl | (dsimp only; omega) | omega, by first | exact Nat.le_of_ble_eq_true rfl | (dsimp only; omega) | omega⟩ hK hE hw hA rfl mh_4 rfl hl.1 (Nat.le_of_ble_eq_true rfl) d_M_putWord_28 ⟨by first | exact Nat.le_of_ble_eq_true rfl | (dsimp only; omega) | omega, by first | exact Nat.le_of_ble_eq_true rfl | (dsimp only; omega) | omega⟩ rfl (fun r9 h9 H locs hp hw => ?_)
                                  obtain ⟨r8, m8, o8, k8⟩ := hp
                                  subst r8
                                  obtain ⟨h5, e7⟩ : ∃ x9, x9 = h9 := ⟨_, rfl⟩
                                  subst e7
                                  generalize eO_5 : O_4 ++ ([101]) = O_5 at m8 o8 ln_5
                                  have oh_5 := o8
                                  have mh_5 := m8
                                  have kk5 : z_K (fun y => y = 20 ∨ y = 35) h h5 := kk4.tr k8
                                  refine W.eq (g2 := F0 m 31 ls []) rfl ?_
                                  refine lv_iinc (v := (-8)) (lv' := [(3, .int (-8)), (0, .ref mo), (1, .long 439721161573)]) hx hb d_M_putWord_31 hl (k := 0) rfl (by decide) (by decide) rfl (fun ls hl => ?_)
                                  refine lv_goto (tgt := 3) hx hb d_M_putWord_34 (by decide) ?_
                                  refine lv_iload_n hx hb d_M_putWord_3 rfl (lv_at hl 0 rfl) ?_
                                  refine lv_if_lt (tgt := 37) hx hb d_M_putWord_4 (by decide) (fun c_4 => ?_) (fun c_4 => ?_)
                                  · -- 4: True
                                    have eF : O ++ (wdO 9) = O_5 := by rw [← eO_5, ← eO_4, ← eO_3, ← eO_2, ← eO_1]; rw [show wdO 9 = [102, 97, 108, 115, 101] by decide]; simp
                                    exact z_vret hx hb hr hlocks hw ⟨rfl, by rw [eF]; exact mh_5, eF ▸ oh_5, kk5⟩ (by decide) (by decide) d_M_putWord_37
                                  · -- 4: False
                                    exact absurd (by decide) c_4
            · -- 16: False
              have c_16 : ¬ ((0 : Int64) = 0) := fun z => c_16 ((lg_cmp_eq _ _).mpr z)
              exact absurd rfl c_16
        · -- 16: False
          have c_16 : ¬ ((0 : Int64) = 0) := fun z => c_16 ((lg_cmp_eq _ _).mpr z)
          exact absurd rfl c_16
    · -- 16: False
      have c_16 : ¬ ((0 : Int64) = 0) := fun z => c_16 ((lg_cmp_eq _ _).mpr z)
      exact absurd rfl c_16

theorem mq {v : Int64} {e : Nat} (he : e < 20) (h0 : 0 < e) : (v / un10 e).toInt = if v < 0 then -((v.toInt.natAbs / 10 ^ (e - 1) : Nat) : Int) else ((v.toInt.natAbs / 10 ^ (e - 1) : Nat) : Int) := by
  by_cases h : v < 0
  · rw [if_pos h]; exact num_q (neg_rst h) he h0
  · rw [if_neg h]
    have h1 : v.toInt = (v.toInt.natAbs : Int) := by
      rw [Int64.lt_iff_toInt_lt] at h
      have : (0 : Int64).toInt = 0 := rfl
      omega
    rw [Int64.toInt_div_of_ne_right _ _ (un10_n e he h0).2, un10_t e he h0]
    rw [Int.ofNat_tdiv]
    exact congrArg (fun z : Int => z.tdiv _) h1
theorem mbig {v : Int64} {k : Nat} (hk : k < 19) : (v / un10 (k + 1) > 9 ∨ v / un10 (k + 1) < -9) ↔ 10 ≤ v.toInt.natAbs / 10 ^ k := by
  have h1 := mq (v := v) (e := k + 1) (by omega) (by omega)
  rw [Nat.add_sub_cancel] at h1
  show (9 < v / un10 (k + 1) ∨ _) ↔ _
  rw [Int64.lt_iff_toInt_lt, Int64.lt_iff_toInt_lt, h1]
  generalize v.toInt.natAbs / 10 ^ k = w
  have e1 : (9 : Int64).toInt = 9 := rfl
  have e2 : (-9 : Int64).toInt = -9 := rfl
  split <;> omega
theorem mpos10 {x : Int64} {q : Nat} (hx : x.toInt = (q : Int)) : (x - x / 10 * 10).toInt = ((q % 10 : Nat) : Int) := by
  have h1 : (x / 10).toInt = ((q / 10 : Nat) : Int) := by
    rw [Int64.toInt_div_of_ne_right _ _ (by decide), hx, show (10 : Int64).toInt = ((10 : Nat) : Int) from rfl, Int.ofNat_tdiv]
  have b1 := Int64.toInt_lt x
  have h2 : (x / 10 * 10).toInt = ((q / 10 * 10 : Nat) : Int) := by
    rw [Int64.toInt_mul, h1, show (10 : Int64).toInt = 10 from rfl]
    rw [Int.bmod_eq_of_le (by omega) (by omega)]
    omega
  rw [Int64.toInt_sub, hx, h2, Int.bmod_eq_of_le (by omega) (by omega)]
  omega
theorem mdig {v : Int64} {e : Nat} (he : e < 20) (h0 : 0 < e) : (v / un10 e - v / un10 e / 10 * 10).toInt = if v < 0 then -((v.toInt.natAbs / 10 ^ (e - 1) % 10 : Nat) : Int) else ((v.toInt.natAbs / 10 ^ (e - 1) % 10 : Nat) : Int) := by
  have h1 := mq (v := v) he h0
  by_cases h : v < 0
  · rw [if_pos h] at h1 ⊢; exact rem10 h1
  · rw [if_neg h] at h1 ⊢; exact mpos10 h1
theorem m48 {d : Int64} {q : Nat} (hd : d.toInt = (q : Int)) (hq : q < 10) : (48 : Int32) + d.toInt32 = nI (48 + q) := by
  apply Int32.toInt_inj.mp
  rw [Int32.toInt_add, Int64.toInt_toInt32, hd, nI_toInt (by omega), show (48 : Int32).toInt = 48 from rfl, Int.bmod_eq_of_le (n := (q : Int)) (by omega) (by omega), Int.bmod_eq_of_le (by omega) (by omega)]
  omega
theorem mdig_p {v : Int64} {e : Nat} (he : e < 20) (h0 : 0 < e) (h : v / un10 e - v / un10 e / 10 * 10 ≥ 0) : (48 : Int32) + (v / un10 e - v / un10 e / 10 * 10).toInt32 = nI (48 + v.toInt.natAbs / 10 ^ (e - 1) % 10) := by
  refine m48 ?_ (Nat.mod_lt _ (by decide))
  have h1 := mdig (v := v) he h0
  have h2 : (0 : Int64) ≤ v / un10 e - v / un10 e / 10 * 10 := h
  rw [Int64.le_iff_toInt_le] at h2
  have e0 : (0 : Int64).toInt = 0 := rfl
  by_cases hv : v < 0
  · rw [if_pos hv] at h1; omega
  · rw [if_neg hv] at h1; exact h1
theorem mdig_n {v : Int64} {e : Nat} (he : e < 20) (h0 : 0 < e) (h : ¬ v / un10 e - v / un10 e / 10 * 10 ≥ 0) : (48 : Int32) + (-(v / un10 e - v / un10 e / 10 * 10)).toInt32 = nI (48 + v.toInt.natAbs / 10 ^ (e - 1) % 10) := by
  refine m48 ?_ (Nat.mod_lt _ (by decide))
  have h1 := mdig (v := v) he h0
  have h2 : ¬ (0 : Int64) ≤ v / un10 e - v / un10 e / 10 * 10 := h
  rw [Int64.le_iff_toInt_le] at h2
  have e0 : (0 : Int64).toInt = 0 := rfl
  have h3 := Nat.mod_lt (v.toInt.natAbs / 10 ^ (e - 1)) (show 0 < 10 by decide)
  by_cases hv : v < 0
  · rw [if_pos hv] at h1; rw [Int64.toInt_neg, h1, Int.bmod_eq_of_le (by omega) (by omega)]; omega
  · rw [if_neg hv] at h1; omega
theorem mabs (v : Int64) : v.toInt.natAbs / 10 ^ 18 < 10 := by
  have b1 := Int64.le_toInt v
  have b2 := Int64.toInt_lt v
  have : (10 : Nat) ^ 18 = 1000000000000000000 := by decide
  omega

set_option maxHeartbeats 2000000 in
set_option maxRecDepth 100000 in
theorem m_putNumber (l : Launch) (g : z_G) (h : z_H) {mo : Nat} {ma : Nat → Nat} {cod tpd fls cls9 ffl fcl nds sai il : Int32} {siz at9 : Int32} {O : List Nat} {v : Int64} (hmo : h mo = some ((20, 0), .inr (11, mF ma cod tpd siz fls cls9 ffl fcl nds sai (nI O.length) at9 il))) (hOu : MOu g h ma O) (hl9 : O.length + (numO v).length ≤ 160000)  : z_C l y_M_putNumber prog_13_method_49_code 9 (Option.none : Option Jvm.ClassFile.FieldType) 1 50 0 0 g [.ref mo, .long v] h (fun x h1 => x = none ∧ h1 mo = some ((20, 0), .inr (11, mF ma cod tpd siz fls cls9 ffl fcl nds sai (nI ((O ++ (numO v)).length)) at9 il)) ∧ MOu g h1 ma (O ++ (numO v)) ∧ z_K (fun y => y = 20 ∨ y = 35) h h1) := by
  refine z_C.of (by decide) (Nat.le_of_ble_eq_true rfl) (fun pg en s m below meth cd A ls hx hb hml hr hts hown hlocks hnm hK hE hA hw hl => ?_)
  have hl : lv_has ls 9 [(0, .ref mo), (1, .long v)] := hl
  have hln := (numO_len v).1
  have hneg : v < 0 → 1 ≤ (numO v).length := fun z => by rw [hln, if_pos z]; omega
  have kk0 : z_K (fun y => y = 20 ∨ y = 35) h h := z_K.rf
  have loop_12 : ∀ (fuel : Nat) (O0 : List Nat) (hZ2 : z_H) (H : Heap) (locs : List Loc) (ls : Array Slot) (L12_mo : hZ2 mo = some ((20, 0), .inr (11, mF ma cod tpd siz fls cls9 ffl fcl nds sai (nI O0.length) at9 il))) (kk12 : z_K (fun y => y = 20 ∨ y = 35) h hZ2) (oh0 : MOu g hZ2 ma O0) (eX0 : O ++ numO v = O0 ++ decT (kd v.toInt.natAbs + 1) v.toInt.natAbs), 0 < fuel → z_S g A s.heap hZ2 H locs → lv_has ls 9 [(0, .ref mo), (1, .long v)] → W pg l en { frames := 1, cells := 0, slots := 0, locals := 50 } s m [.ref mo, .long v].toArray below meth cd H locs 0 0 (MQ below (z_Q g A (fun x h1 => x = none ∧ h1 mo = some ((20, 0), .inr (11, mF ma cod tpd siz fls cls9 ffl fcl nds sai (nI ((O ++ (numO v)).length)) at9 il)) ∧ MOu g h1 ma (O ++ (numO v)) ∧ z_K (fun y => y = 20 ∨ y = 35) h h1)) [.ref mo, .long v].toArray s 0 0 A) (F0 m 12 ls []) := by
    intro fuel
    induction fuel with
    | zero => intro O0 hZ2 H locs ls L12_mo kk12 oh0 eX0 hm; exact absurd hm (Nat.not_lt_zero _)
    | succ fuel ih_12 =>
      intro O0 hZ2 H locs ls L12_mo kk12 oh0 eX0 hm hw hl
      refine lv_lconst (v := 1) hx hb d_M_putNumber_12 (by decide) ?_
      refine lv_lstore_n (lv' := [(3, .long 1), (0, .ref mo), (1, .long v)]) hx hb d_M_putNumber_13 rfl hl (by decide) rfl (fun ls hl => ?_)
      have loop_14 : ∀ (fuel : Nat) (k1 : Nat) (H : Heap) (locs : List Loc) (ls : Array Slot)  (lk : k1 ≤ 18 ∧ kdR (18 - k1) k1 v.toInt.natAbs = kd v.toInt.natAbs), (18 - k1) < fuel → z_S g A s.heap hZ2 H locs → lv_has ls 9 [(0, .ref mo), (1, .long v), (3, .long (un10 (k1 + 1)))] → W pg l en { frames := 1, cells := 0, slots := 0, locals := 50 } s m [.ref mo, .long v].toArray below meth cd H locs 0 0 (MQ below (z_Q g A (fun x h1 => x = none ∧ h1 mo = some ((20, 0), .inr (11, mF ma cod tpd siz fls cls9 ffl fcl nds sai (nI ((O ++ (numO v)).length)) at9 il)) ∧ MOu g h1 ma (O ++ (numO v)) ∧ z_K (fun y => y = 20 ∨ y = 35) h h1)) [.ref mo, .long v].toArray s 0 0 A) (F0 m 14 ls []) := by
        intro fuel
        induction fuel with
        | zero => intro k1 H locs ls lk hm; exact absurd hm (Nat.not_lt_zero _)
        | succ fuel ih_14 =>
          intro k1 H locs ls lk hm hw hl
          refine lv_lload_n hx hb d_M_putNumber_14 rfl (lv_at hl 1 rfl) ?_
          refine lv_lload_n hx hb d_M_putNumber_15 rfl (lv_at hl 2 rfl) ?_
          refine lv_ldiv hx hb d_M_putNumber_16 (un10_n (k1 + 1) (by omega) (by omega)).1 ?_
          refine lv_ldc2 hx hb hown (hts _ (z_in k_1091 rfl)) d_M_putNumber_17 ?_
          refine W.lcmp hx hb d_M_putNumber_20 ?_
          refine lv_if_gt (tgt := 34) hx hb d_M_putNumber_21 (by decide) (fun c_21 => ?_) (fun c_21 => ?_)
          · -- 21: True
            have c_21 : (v / (un10 (k1 + 1)) : Int64) > 9 := (lg_cmp_gt _ _).mp c_21
            have big9 : 10 ≤ v.toInt.natAbs / 10 ^ k1 := (mbig (by omega)).mp (Or.inl c_21)
            have k18 : k1 < 18 := by apply Classical.byContradiction; intro z; have := mabs v; rw [show k1 = 18 by omega] at big9; omega
            refine lv_lload_n hx hb d_M_putNumber_34 rfl (lv_at hl 2 rfl) ?_
            refine lv_ldc2 hx hb hown (hts _ (z_in k_1011 rfl)) d_M_putNumber_35 ?_
            refine lv_lmul hx hb d_M_putNumber_38 ?_
            refine z_topl (y := un10 (k1 + 1 + 1)) (pw10_m k1 k18) ?_
            refine lv_lstore_n (lv' := [(3, .long (un10 (k1 + 1 + 1))), (0, .ref mo), (1, .long v)]) hx hb d_M_putNumber_39 rfl hl (by decide) rfl (fun ls hl => ?_)
            refine lv_goto (tgt := 14) hx hb d_M_putNumber_40 (by decide) ?_
            refine ih_14 (k1 + 1) _ _ _ (⟨by omega, by rw [← lk.2, show 18 - k1 = (18 - (k1 + 1)) + 1 by omega]; simp only [kdR]; rw [if_pos big9]⟩) ?_ hw (lv_sub hl [1, 2, 0] rfl)
            omega
          · -- 21: False
            have c_21 : ¬ ((v / (un10 (k1 + 1)) : Int64) > 9) := fun z => c_21 ((lg_cmp_gt _ _).mpr z)
            refine lv_lload_n hx hb d_M_putNumber_24 rfl (lv_at hl 1 rfl) ?_
            refine lv_lload_n hx hb d_M_putNumber_25 rfl (lv_at hl 2 rfl) ?_
            refine lv_ldiv hx hb d_M_putNumber_26 (un10_n (k1 + 1) (by omega) (by omega)).1 ?_
            refine lv_ldc2 hx hb hown (hts _ (z_in k_1092 rfl)) d_M_putNumber_27 ?_
            refine W.lcmp hx hb d_M_putNumber_30 ?_
            refine lv_if_ge (tgt := 43) hx hb d_M_putNumber_31 (by decide) (fun c_31 => ?_) (fun c_31 => ?_)
            · -- 31: True
              have c_31 : (v / (un10 (k1 + 1)) : Int64) ≥ (-9) := (lg_cmp_ge _ _).mp c_31
              have nb9 : ¬ 10 ≤ v.toInt.natAbs / 10 ^ k1 := fun z => ((mbig (v := v) (by omega)).mpr z).elim c_21 (fun y => absurd (show _ ≥ _ from c_31) (Int64.not_le.mpr y))
              have ek : kd v.toInt.natAbs = k1 := by rw [← lk.2]; rcases e18 : 18 - k1 with _ | r; (· simp only [kdR]); (· simp only [kdR]; rw [if_neg nb9])
              rw [ek] at eX0
              refine lv_lload_n hx hb d_M_putNumber_43 rfl (lv_at hl 2 rfl) ?_
              refine lv_lstore (lv' := [(5, .long (un10 (k1 + 1))), (0, .ref mo), (1, .long v), (3, .long (un10 (k1 + 1)))]) hx hb d_M_putNumber_44 hl (by decide) rfl (fun ls hl => ?_)
              have loop_46 : ∀ (fuel : Nat) (e1 : Nat) (O1 : List Nat) (hZ4 : z_H) (H : Heap) (locs : List Loc) (ls : Array Slot) (L46_mo : hZ4 mo = some ((20, 0), .inr (11, mF ma cod tpd siz fls cls9 ffl fcl nds sai (nI O1.length) at9 il))) (kkL : z_K (fun y => y = 20 ∨ y = 35) h hZ4) (oh1 : MOu g hZ4 ma O1) (le1 : e1 < 20 ∧ O ++ numO v = O1 ++ decT e1 v.toInt.natAbs), e1 < fuel → z_S g A s.heap hZ4 H locs → lv_has ls 9 [(0, .ref mo), (1, .long v), (5, .long (un10 e1))] → W pg l en { frames := 1, cells := 0, slots := 0, locals := 50 } s m [.ref mo, .long v].toArray below meth cd H locs 0 0 (MQ below (z_Q g A (fun x h1 => x = none ∧ h1 mo = some ((20, 0), .inr (11, mF ma cod tpd siz fls cls9 ffl fcl nds sai (nI ((O ++ (numO v)).length)) at9 il)) ∧ MOu g h1 ma (O ++ (numO v)) ∧ z_K (fun y => y = 20 ∨ y = 35) h h1)) [.ref mo, .long v].toArray s 0 0 A) (F0 m 46 ls []) := by
                intro fuel
                induction fuel with
                | zero => intro e1 O1 hZ4 H locs ls L46_mo kkL oh1 le1 hm; exact absurd hm (Nat.not_lt_zero _)
                | succ fuel ih_46 =>
                  intro e1 O1 hZ4 H locs ls L46_mo kkL oh1 le1 hm hw hl
                  have lV1 : O.length + (numO v).length = O1.length + e1 := by rw [← List.length_append, le1.2, List.length_append, decT_len]
                  refine lv_lload hx hb d_M_putNumber_46 (lv_at hl 2 rfl) ?_
                  refine lv_lconst (v := 0) hx hb d_M_putNumber_48 (by decide) ?_
                  refine W.lcmp hx hb d_M_putNumber_49 ?_
                  refine lv_if_le (tgt := 97) hx hb d_M_putNumber_50 (by decide) (fun c_50 => ?_) (fun c_50 => ?_)
                  · -- 50: True
                    have c_50 : (un10 e1 : Int64) ≤ 0 := (lg_cmp_le _ _).mp c_50
                    have eF : O ++ numO v = O1 := by have e0 : e1 = 0 := ((un10_0 e1 le1.1).mp c_50); rw [le1.2, e0]; simp [decT]
                    exact z_vret hx hb hr hlocks hw ⟨rfl, by rw [eF]; exact L46_mo, eF ▸ oh1, kkL⟩ (by decide) (by decide) d_M_putNumber_97
                  · -- 50: False
                    have c_50 : ¬ ((un10 e1 : Int64) ≤ 0) := fun z => c_50 ((lg_cmp_le _ _).mpr z)
                    have e0 : 0 < e1 := Nat.pos_of_ne_zero (fun z => c_50 ((un10_0 e1 le1.1).mpr z))
                    refine lv_lload_n hx hb d_M_putNumber_53 rfl (lv_at hl 1 rfl) ?_
                    refine lv_lload hx hb d_M_putNumber_54 (lv_at hl 2 rfl) ?_
                    refine lv_ldiv hx hb d_M_putNumber_56 (un10_n e1 le1.1 e0).1 ?_
                    refine lv_ldc2 hx hb hown (hts _ (z_in k_1011 rfl)) d_M_putNumber_57 ?_
                    refine lv_lrem hx hb d_M_putNumber_60 (by decide) ?_
                    refine lv_lstore (lv' := [(7, .long ((v / (un10 e1)) - (v / (un10 e1)) / 10 * 10)), (0, .ref mo), (1, .long v), (5, .long (un10 e1))]) hx hb d_M_putNumber_61 hl (by decide) rfl (fun ls hl => ?_)
                    refine lv_aload_n hx hb d_M_putNumber_63 rfl (lv_at hl 1 rfl) ?_
                    refine lv_bipush (v := 48) hx hb d_M_putNumber_64 (by decide) ?_
                    refine lv_lload hx hb d_M_putNumber_66 (lv_at hl 0 rfl) ?_
                    refine lv_lconst (v := 0) hx hb d_M_putNumber_68 (by decide) ?_
                    refine W.lcmp hx hb d_M_putNumber_69 ?_
                    refine lv_if_ge (tgt := 79) hx hb d_M_putNumber_70 (by decide) (fun c_70 => ?_) (fun c_70 => ?_)
                    · -- 70: True
                      have c_70 : ((v / (un10 e1)) - (v / (un10 e1)) / 10 * 10 : Int64) ≥ 0 := (lg_cmp_ge _ _).mp c_70
                      refine lv_lload hx hb d_M_putNumber_79 (lv_at hl 0 rfl) ?_
                      refine lv_l2i hx hb d_M_putNumber_81 rfl ?_
                      refine lv_iadd hx hb d_M_putNumber_82 ?_
                      refine z_topi (y := nI (48 + v.toInt.natAbs / 10 ^ (e1 - 1) % 10)) (mdig_p le1.1 e0 c_70) ?_
                      have ln_1 : (O1 ++ ([48 + v.toInt.natAbs / 10 ^ (e1 - 1) % 10])).length = O1.length + ([48 + v.toInt.natAbs / 10 ^ (e1 - 1) % 10]).length := List.length_append
                      simp only [List.length_cons, List.length_nil] at ln_1
                      refine z_callV (n := 1) (As := [.int (nI (48 + v.toInt.natAbs / 10 ^ (e1 - 1) % 10))]) (rest := []) ⟨hx, hb, hml, hown, hts⟩ (m_put (O := O1) (b9 := 48 + v.toInt.natAbs / 10 ^ (e1 - 1) % 10) l g hZ4 L46_mo oh1 (by omega) (by omega)) (z_in k_1069 rfl) (z_in k_7 rfl) (z_in k_1066 rfl) (z_in k_1068 rfl) (z_in ks_53 rfl) (by decide +kernel) ⟨by first | exact Nat.le_of_ble_eq_true rfl | (dsimp only; omega) | omega, by first | exact Nat.le_of_ble_eq_true rfl | (dsimp only; omega) | omega⟩ hK hE hw hA rfl L46_mo rfl hl.1 (Nat.le_of_ble_eq_true rfl) d_M_putNumber_83 ⟨by first | exact Nat.le_of_ble_eq_true rfl | (dsimp only; omega) | omega, by first | exact Nat.le_of_ble_eq_true rfl | (dsimp only; omega) | omega⟩ rfl (fun r9 h9 H locs hp hw => ?_)
                      obtain ⟨r8, m8, o8, k8⟩ := hp
                      subst r8
                      obtain ⟨h1, e7⟩ : ∃ x9, x9 = h9 := ⟨_, rfl⟩
                      subst e7
                      generalize eO_1 : O1 ++ ([48 + v.toInt.natAbs / 10 ^ (e1 - 1) % 10]) = O_1 at m8 o8 ln_1
                      have oh_1 := o8
                      have mh_1 := m8
                      have kk1 : z_K (fun y => y = 20 ∨ y = 35) h h1 := kkL.tr k8
                      refine W.eq (g2 := F0 m 86 ls []) rfl ?_
                      refine lv_lload hx hb d_M_putNumber_86 (lv_at hl 3 rfl) ?_
                      refine lv_ldc2 hx hb hown (hts _ (z_in k_1011 rfl)) d_M_putNumber_88 ?_
                      refine lv_ldiv hx hb d_M_putNumber_91 (by decide) ?_
                      refine z_topl (y := un10 (e1 - 1)) (un10_d e1 le1.1) ?_
                      refine lv_lstore (lv' := [(5, .long (un10 (e1 - 1))), (7, .long ((v / (un10 e1)) - (v / (un10 e1)) / 10 * 10)), (0, .ref mo), (1, .long v)]) hx hb d_M_putNumber_92 hl (by decide) rfl (fun ls hl => ?_)
                      refine lv_goto (tgt := 46) hx hb d_M_putNumber_94 (by decide) ?_
                      refine ih_46 (e1 - 1) O_1 h1 _ _ _ mh_1 kk1 oh_1 (⟨by omega, by rw [le1.2, ← eO_1, decT_step (by omega) _, List.append_assoc]; rfl⟩) ?_ hw (lv_sub hl [2, 3, 0] rfl)
                      omega
                    · -- 70: False
                      have c_70 : ¬ (((v / (un10 e1)) - (v / (un10 e1)) / 10 * 10 : Int64) ≥ 0) := fun z => c_70 ((lg_cmp_ge _ _).mpr z)
                      refine lv_lload hx hb d_M_putNumber_73 (lv_at hl 0 rfl) ?_
                      refine lv_lneg hx hb d_M_putNumber_75 ?_
                      refine lv_goto (tgt := 81) hx hb d_M_putNumber_76 (by decide) ?_
                      refine lv_l2i hx hb d_M_putNumber_81 rfl ?_
                      refine lv_iadd hx hb d_M_putNumber_82 ?_
                      refine z_topi (y := nI (48 + v.toInt.natAbs / 10 ^ (e1 - 1) % 10)) (mdig_n le1.1 e0 c_70) ?_
                      have ln_2 : (O1 ++ ([48 + v.toInt.natAbs / 10 ^ (e1 - 1) % 10])).length = O1.length + ([48 + v.toInt.natAbs / 10 ^ (e1 - 1) % 10]).length := List.length_append
                      simp only [List.length_cons, List.length_nil] at ln_2
                      refine z_callV (n := 1) (As := [.int (nI (48 + v.toInt.natAbs / 10 ^ (e1 - 1) % 10))]) (rest := []) ⟨hx, hb, hml, hown, hts⟩ (m_put (O := O1) (b9 := 48 + v.toInt.natAbs / 10 ^ (e1 - 1) % 10) l g hZ4 L46_mo oh1 (by omega) (by omega)) (z_in k_1069 rfl) (z_in k_7 rfl) (z_in k_1066 rfl) (z_in k_1068 rfl) (z_in ks_53 rfl) (by decide +kernel) ⟨by first | exact Nat.le_of_ble_eq_true rfl | (dsimp only; omega) | omega, by first | exact Nat.le_of_ble_eq_true rfl | (dsimp only; omega) | omega⟩ hK hE hw hA rfl L46_mo rfl hl.1 (Nat.le_of_ble_eq_true rfl) d_M_putNumber_83 ⟨by first | exact Nat.le_of_ble_eq_true rfl | (dsimp only; omega) | omega, by first | exact Nat.le_of_ble_eq_true rfl | (dsimp only; omega) | omega⟩ rfl (fun r9 h9 H locs hp hw => ?_)
                      obtain ⟨r8, m8, o8, k8⟩ := hp
                      subst r8
                      obtain ⟨h2, e7⟩ : ∃ x9, x9 = h9 := ⟨_, rfl⟩
                      subst e7
                      generalize eO_2 : O1 ++ ([48 + v.toInt.natAbs / 10 ^ (e1 - 1) % 10]) = O_2 at m8 o8 ln_2
                      have oh_2 := o8
                      have mh_2 := m8
                      have kk2 : z_K (fun y => y = 20 ∨ y = 35) h h2 := kkL.tr k8
                      refine W.eq (g2 := F0 m 86 ls []) rfl ?_
                      refine lv_lload hx hb d_M_putNumber_86 (lv_at hl 3 rfl) ?_
                      refine lv_ldc2 hx hb hown (hts _ (z_in k_1011 rfl)) d_M_putNumber_88 ?_
                      refine lv_ldiv hx hb d_M_putNumber_91 (by decide) ?_
                      refine z_topl (y := un10 (e1 - 1)) (un10_d e1 le1.1) ?_
                      refine lv_lstore (lv' := [(5, .long (un10 (e1 - 1))), (7, .long ((v / (un10 e1)) - (v / (un10 e1)) / 10 * 10)), (0, .ref mo), (1, .long v)]) hx hb d_M_putNumber_92 hl (by decide) rfl (fun ls hl => ?_)
                      refine lv_goto (tgt := 46) hx hb d_M_putNumber_94 (by decide) ?_
                      refine ih_46 (e1 - 1) O_2 h2 _ _ _ mh_2 kk2 oh_2 (⟨by omega, by rw [le1.2, ← eO_2, decT_step (by omega) _, List.append_assoc]; rfl⟩) ?_ hw (lv_sub hl [2, 3, 0] rfl)
                      omega
              exact loop_46 ((k1 + 1) + 1) (k1 + 1) O0 hZ2 _ _ _ L12_mo kk12 oh0 (⟨by omega, eX0⟩) (by omega) hw (lv_sub hl [1, 2, 0] rfl)
            · -- 31: False
              have c_31 : ¬ ((v / (un10 (k1 + 1)) : Int64) ≥ (-9)) := fun z => c_31 ((lg_cmp_ge _ _).mpr z)
              have big9 : 10 ≤ v.toInt.natAbs / 10 ^ k1 := (mbig (by omega)).mp (Or.inr (Int64.not_le.mp c_31))
              have k18 : k1 < 18 := by apply Classical.byContradiction; intro z; have := mabs v; rw [show k1 = 18 by omega] at big9; omega
              refine lv_lload_n hx hb d_M_putNumber_34 rfl (lv_at hl 2 rfl) ?_
              refine lv_ldc2 hx hb hown (hts _ (z_in k_1011 rfl)) d_M_putNumber_35 ?_
              refine lv_lmul hx hb d_M_putNumber_38 ?_
              refine z_topl (y := un10 (k1 + 1 + 1)) (pw10_m k1 k18) ?_
              refine lv_lstore_n (lv' := [(3, .long (un10 (k1 + 1 + 1))), (0, .ref mo), (1, .long v)]) hx hb d_M_putNumber_39 rfl hl (by decide) rfl (fun ls hl => ?_)
              refine lv_goto (tgt := 14) hx hb d_M_putNumber_40 (by decide) ?_
              refine ih_14 (k1 + 1) _ _ _ (⟨by omega, by rw [← lk.2, show 18 - k1 = (18 - (k1 + 1)) + 1 by omega]; simp only [kdR]; rw [if_pos big9]⟩) ?_ hw (lv_sub hl [1, 2, 0] rfl)
              omega
      exact loop_14 (18 - 0 + 1) 0  _ _ _  (⟨by omega, rfl⟩) (by omega) hw (lv_sub hl [1, 2, 0] rfl)
  refine lv_lload_n hx hb d_M_putNumber_0 rfl (lv_at hl 1 rfl) ?_
  refine lv_lconst (v := 0) hx hb d_M_putNumber_1 (by decide) ?_
  refine W.lcmp hx hb d_M_putNumber_2 ?_
  refine lv_if_ge (tgt := 12) hx hb d_M_putNumber_3 (by decide) (fun c_3 => ?_) (fun c_3 => ?_)
  · -- 3: True
    have c_3 : (v : Int64) ≥ 0 := (lg_cmp_ge _ _).mp c_3
    exact loop_12 (0 + 1) O h _ _ _ hmo kk0 hOu (by unfold numO; rw [if_neg (Int64.not_lt.mpr c_3)]; simp) (by omega) hw (lv_sub hl [0, 1] rfl)
  · -- 3: False
    have c_3 : ¬ ((v : Int64) ≥ 0) := fun z => c_3 ((lg_cmp_ge _ _).mpr z)
    have ln6 := hneg (Int64.not_le.mp c_3)
    refine lv_aload_n hx hb d_M_putNumber_6 rfl (lv_at hl 0 rfl) ?_
    refine lv_bipush (v := 45) hx hb d_M_putNumber_7 (by decide) ?_
    have ln_3 : (O ++ ([45])).length = O.length + ([45]).length := List.length_append
    simp only [List.length_cons, List.length_nil] at ln_3
    refine z_callV (n := 1) (As := [.int 45]) (rest := []) ⟨hx, hb, hml, hown, hts⟩ (m_put (O := O) (b9 := 45) l g h hmo hOu (by omega) (by omega)) (z_in k_1069 rfl) (z_in k_7 rfl) (z_in k_1066 rfl) (z_in k_1068 rfl) (z_in ks_53 rfl) (by decide +kernel) ⟨by first | exact Nat.le_of_ble_eq_true rfl | (dsimp only; omega) | omega, by first | exact Nat.le_of_ble_eq_true rfl | (dsimp only; omega) | omega⟩ hK hE hw hA rfl hmo rfl hl.1 (Nat.le_of_ble_eq_true rfl) d_M_putNumber_9 ⟨by first | exact Nat.le_of_ble_eq_true rfl | (dsimp only; omega) | omega, by first | exact Nat.le_of_ble_eq_true rfl | (dsimp only; omega) | omega⟩ rfl (fun r9 h9 H locs hp hw => ?_)
    obtain ⟨r8, m8, o8, k8⟩ := hp
    subst r8
    obtain ⟨h3, e7⟩ : ∃ x9, x9 = h9 := ⟨_, rfl⟩
    subst e7
    generalize eO_3 : O ++ ([45]) = O_3 at m8 o8 ln_3
    have oh_3 := o8
    have mh_3 := m8
    have kk3 : z_K (fun y => y = 20 ∨ y = 35) h h3 := kk0.tr k8
    refine W.eq (g2 := F0 m 12 ls []) rfl ?_
    exact loop_12 (0 + 1) O_3 h3 _ _ _ mh_3 kk3 oh_3 (by rw [← eO_3]; unfold numO; rw [if_pos (Int64.not_le.mp c_3)]; simp) (by omega) hw (lv_sub hl [0, 1] rfl)

set_option maxHeartbeats 2000000 in
set_option maxRecDepth 100000 in
theorem m_putValue_of (l : Launch) (g : z_G) (h : z_H) {mo : Nat} {ma : Nat → Nat} {cod tpd cls9 ffl fcl sai il : Int32} {siz at9 : Int32} {S : Sch} {O : List Nat} {R : Rec} {rw9 : Nat → Nat} {rf : Nat → Nat → Int32} {lf : Nat → Int32} {nf np nr ns : Nat → Int32} {nv : Nat → Int64} {tx : Nat → Int32} {i f8 fM lM : Nat} {GW : Nat → List Nat} (hmo : h mo = some ((20, 0), .inr (11, mF ma cod tpd siz (nI S.1) cls9 ffl fcl (nI R.1) sai (nI O.length) at9 il))) (hOu : MOu g h ma O) (hl9 : O.length + (if fTy (S.2 f8) = 4 then GW i else leafO (R.2 i) (fTy (S.2 f8))).length ≤ 160000) (hSc : MSp g h (ma 2) (ma 4) 23 27 S rw9 rf lf) (hNd : MNp g h ma R nf np nr ns nv tx) (hs8 : S.1 ≤ 128) (hR2 : R.1 ≤ 2000) (hR1 : 0 < R.1) (hpa : paOK R) (htb9 : tbC R.2 R.1 ≤ 16000) (hi : i < R.1) (hi0 : 0 < i) (hf8 : f8 < S.1) (ef8 : ndFi (R.2 i) = nI f8) (hbo : fTy (S.2 f8) = 0 → ndNu (R.2 i) = 0 ∨ ndNu (R.2 i) = 1) (hby : ∀ k, k < (ndTx (R.2 i)).length → (ndTx (R.2 i)).getD k 0 < 256) (hG : fTy (S.2 f8) = 4 → ∀ (h : z_H) (O : List Nat), h mo = some ((20, 0), .inr (11, mF ma cod tpd siz (nI S.1) cls9 ffl fcl (nI R.1) sai (nI O.length) at9 il)) → MSp g h (ma 2) (ma 4) 23 27 S rw9 rf lf → MNp g h ma R nf np nr ns nv tx → MOu g h ma O → O.length + (GW i).length ≤ 160000 → z_C l y_M_putGroup prog_13_method_54_code 7 (Option.none : Option Jvm.ClassFile.FieldType) fM lM 0 0 g [.ref mo, .int (nI i)] h (fun x h1 => x = none ∧ h1 mo = some ((20, 0), .inr (11, mF ma cod tpd siz (nI S.1) cls9 ffl fcl (nI R.1) sai (nI ((O ++ (GW i)).length)) at9 il)) ∧ MOu g h1 ma (O ++ (GW i)) ∧ z_K (fun y => y = 20 ∨ y = 35) h h1)) : z_C l y_M_putValue prog_13_method_53_code 3 (Option.none : Option Jvm.ClassFile.FieldType) (fM + 10) (lM + 200) 0 0 g [.ref mo, .int (nI i)] h (fun x h1 => x = none ∧ h1 mo = some ((20, 0), .inr (11, mF ma cod tpd siz (nI S.1) cls9 ffl fcl (nI R.1) sai (nI ((O ++ (if fTy (S.2 f8) = 4 then GW i else leafO (R.2 i) (fTy (S.2 f8)))).length)) at9 il)) ∧ MOu g h1 ma (O ++ (if fTy (S.2 f8) = 4 then GW i else leafO (R.2 i) (fTy (S.2 f8)))) ∧ z_K (fun y => y = 20 ∨ y = 35) h h1) := by
  refine z_C.of (by decide) (Nat.le_of_ble_eq_true rfl) (fun pg en s m below meth cd A ls hx hb hml hr hts hown hlocks hnm hK hE hA hw hl => ?_)
  have hl : lv_has ls 3 [(0, .ref mo), (1, .int (nI i))] := hl
  have hrw_1 : h (rw9 1) = some ((24, 1), .inl (g.2.1 1, 128, .inl (rf 1))) := hSc.2.1 1 (by omega)
  have kk0 : z_K (fun y => y = 20 ∨ y = 35) h h := z_K.rf
  refine lv_aload_n hx hb d_M_putValue_0 rfl (lv_at hl 0 rfl) ?_
  refine z_get hx hb hts (z_lay i_M) hown hK hw hmo rfl 5 (by decide) (z_in k_776 rfl) (fun _ h9 => h9) rfl d_M_putValue_1 ?_
  refine lv_iconst (v := 1) hx hb d_M_putValue_4 (by decide) ?_
  refine z_aldr hx hb hK hw hSc.1 5 rfl (by unfold vp_in; decide) d_M_putValue_5 ?_
  refine z_top (y := va_rf ((fun k => some (rw9 k)) 1)) (by rfl) ?_
  refine z_top (y := .ref (rw9 1)) (rfl) ?_
  refine lv_aload_n hx hb d_M_putValue_6 rfl (lv_at hl 0 rfl) ?_
  refine z_get hx hb hts (z_lay i_M) hown hK hw hmo rfl 13 (by decide) (z_in k_784 rfl) (fun _ h9 => h9) rfl d_M_putValue_7 ?_
  refine lv_iload_n hx hb d_M_putValue_10 rfl (lv_at hl 1 rfl) ?_
  refine z_iald hx hb hK hw hNd.1 1 rfl (vp_in_nI (by omega) (by omega)) d_M_putValue_11 ?_
  refine z_topi (y := nf i) (by rw [nI_clamp (by omega)]) ?_
  refine z_top (y := .int (nI f8)) (by rw [(hNd.2.2.2.2.2.2 i hi).1, ef8]) ?_
  refine z_iald hx hb hK hw hrw_1 1 rfl (vp_in_nI (by omega) (by omega)) d_M_putValue_12 ?_
  refine z_topi (y := (rf 1) f8) (by rw [nI_clamp (by omega)]) ?_
  refine z_top (y := .int (fTy (S.2 f8))) (by rw [(hSc.2.2.2 f8 hf8).2.1]) ?_
  refine lv_istore_n (lv' := [(2, .int (fTy (S.2 f8))), (0, .ref mo), (1, .int (nI i))]) hx hb d_M_putValue_13 rfl hl (by decide) rfl (fun ls hl => ?_)
  refine lv_iload_n hx hb d_M_putValue_14 rfl (lv_at hl 0 rfl) ?_
  refine lv_iconst (v := 4) hx hb d_M_putValue_15 (by decide) ?_
  refine lv_icmp_ne (tgt := 27) hx hb d_M_putValue_16 (by decide) (fun c_16 => ?_) (fun c_16 => ?_)
  · -- 16: True
    refine lv_iload_n hx hb d_M_putValue_27 rfl (lv_at hl 0 rfl) ?_
    refine lv_iconst (v := 3) hx hb d_M_putValue_28 (by decide) ?_
    refine lv_icmp_ne (tgt := 40) hx hb d_M_putValue_29 (by decide) (fun c_29 => ?_) (fun c_29 => ?_)
    · -- 29: True
      refine lv_iload_n hx hb d_M_putValue_40 rfl (lv_at hl 0 rfl) ?_
      refine lv_if_ne (tgt := 71) hx hb d_M_putValue_41 (by decide) (fun c_41 => ?_) (fun c_41 => ?_)
      · -- 41: True
        have eV : (if fTy (S.2 f8) = 4 then GW i else leafO (R.2 i) (fTy (S.2 f8))) = numO (ndNu (R.2 i)) := by rw [if_neg (show ¬ fTy (S.2 f8) = 4 from c_16)]; unfold leafO; rw [if_neg (show ¬ fTy (S.2 f8) = 3 from c_29), if_neg (show ¬ fTy (S.2 f8) = 0 from c_41)]
        rw [eV] at hl9
        refine lv_aload_n hx hb d_M_putValue_71 rfl (lv_at hl 1 rfl) ?_
        refine lv_aload_n hx hb d_M_putValue_72 rfl (lv_at hl 1 rfl) ?_
        refine z_get hx hb hts (z_lay i_M) hown hK hw hmo rfl 17 (by decide) (z_in k_788 rfl) (fun _ h9 => h9) rfl d_M_putValue_73 ?_
        refine lv_iload_n hx hb d_M_putValue_76 rfl (lv_at hl 2 rfl) ?_
        refine z_lald hx hb hK hw hNd.2.2.2.2.1 2 rfl (vp_in_nI (by omega) (by omega)) d_M_putValue_77 ?_
        refine z_topl (y := nv i) (by rw [nI_clamp (by omega)]) ?_
        refine z_top (y := .long (ndNu (R.2 i))) (by rw [((hNd.2.2.2.2.2.2 i hi).2.2 hi0).2.2.1]) ?_
        have ln_1 : (O ++ (numO (ndNu (R.2 i)))).length = O.length + (numO (ndNu (R.2 i))).length := List.length_append
        refine z_callV (n := 1) (As := [.long (ndNu (R.2 i))]) (rest := []) ⟨hx, hb, hml, hown, hts⟩ (m_putNumber (O := O) l g h hmo hOu hl9) (z_in k_1090 rfl) (z_in k_7 rfl) (z_in k_1087 rfl) (z_in k_1089 rfl) (z_in ks_58 rfl) (by decide +kernel) ⟨by first | exact Nat.le_of_ble_eq_true rfl | (dsimp only; omega) | omega, by first | exact Nat.le_of_ble_eq_true rfl | (dsimp only; omega) | omega⟩ hK hE hw hA rfl hmo rfl hl.1 (Nat.le_of_ble_eq_true rfl) d_M_putValue_78 ⟨by first | exact Nat.le_of_ble_eq_true rfl | (dsimp only; omega) | omega, by first | exact Nat.le_of_ble_eq_true rfl | (dsimp only; omega) | omega⟩ rfl (fun r9 h9 H locs hp hw => ?_)
        obtain ⟨r8, m8, o8, k8⟩ := hp
        subst r8
        obtain ⟨h1, e7⟩ : ∃ x9, x9 = h9 := ⟨_, rfl⟩
        subst e7
        generalize eO_1 : O ++ (numO (ndNu (R.2 i))) = O_1 at m8 o8 ln_1
        have oh_1 := o8
        have mh_1 := m8
        have g1_ma_2 : h1 (ma 2) = some ((23, 0), .inl (g.2.1 5, 6, .inr (.inr (.inr (.inr (fun k => some (rw9 k))))))) := k8 _ _ _ hSc.1 (by simp; try omega)
        have g1_rw9_1 : h1 (rw9 1) = some ((24, 1), .inl (g.2.1 1, 128, .inl (rf 1))) := k8 _ _ _ hrw_1 (by simp; try omega)
        have g1_ma_6 : h1 (ma 6) = some ((29, 0), .inl (g.2.1 1, 2000, .inl nf)) := k8 _ _ _ hNd.1 (by simp; try omega)
        have g1_ma_10 : h1 (ma 10) = some ((30, 0), .inl (g.2.1 2, 2000, .inr (.inl nv))) := k8 _ _ _ hNd.2.2.2.2.1 (by simp; try omega)
        have kk1 : z_K (fun y => y = 20 ∨ y = 35) h h1 := kk0.tr k8
        refine W.eq (g2 := F0 m 81 ls []) rfl ?_
        have eF : O ++ (if fTy (S.2 f8) = 4 then GW i else leafO (R.2 i) (fTy (S.2 f8))) = O_1 := by rw [← eO_1]; rw [eV]
        exact z_vret hx hb hr hlocks hw ⟨rfl, by rw [eF]; exact mh_1, eF ▸ oh_1, kk1⟩ (by decide) (by decide) d_M_putValue_81
      · -- 41: False
        refine lv_aload_n hx hb d_M_putValue_44 rfl (lv_at hl 1 rfl) ?_
        refine lv_aload_n hx hb d_M_putValue_45 rfl (lv_at hl 1 rfl) ?_
        refine z_get hx hb hts (z_lay i_M) hown hK hw hmo rfl 17 (by decide) (z_in k_788 rfl) (fun _ h9 => h9) rfl d_M_putValue_46 ?_
        refine lv_iload_n hx hb d_M_putValue_49 rfl (lv_at hl 2 rfl) ?_
        refine z_lald hx hb hK hw hNd.2.2.2.2.1 2 rfl (vp_in_nI (by omega) (by omega)) d_M_putValue_50 ?_
        refine z_topl (y := nv i) (by rw [nI_clamp (by omega)]) ?_
        refine z_top (y := .long (ndNu (R.2 i))) (by rw [((hNd.2.2.2.2.2.2 i hi).2.2 hi0).2.2.1]) ?_
        refine lv_lconst (v := 1) hx hb d_M_putValue_51 (by decide) ?_
        refine W.lcmp hx hb d_M_putValue_52 ?_
        refine lv_if_ne (tgt := 62) hx hb d_M_putValue_53 (by decide) (fun c_53 => ?_) (fun c_53 => ?_)
        · -- 53: True
          have c_53 : ¬ ((ndNu (R.2 i) : Int64) = 1) := fun z => c_53 ((lg_cmp_eq _ _).mpr z)
          have eV : (if fTy (S.2 f8) = 4 then GW i else leafO (R.2 i) (fTy (S.2 f8))) = wdO 9 := by rw [if_neg (show ¬ fTy (S.2 f8) = 4 from c_16)]; unfold leafO; rw [if_neg (show ¬ fTy (S.2 f8) = 3 from c_29), if_pos (show fTy (S.2 f8) = 0 by simpa using c_41), if_pos ((hbo (by simpa using c_41)).resolve_right c_53)]
          rw [eV] at hl9
          refine lv_ldc2 hx hb hown (hts _ (z_in k_1005 rfl)) d_M_putValue_62 ?_
          have ln_2 : (O ++ (wdO 9)).length = O.length + (wdO 9).length := List.length_append
          refine z_callV (n := 1) (As := [.long 439721161573]) (rest := []) ⟨hx, hb, hml, hown, hts⟩ (m_putFalse (O := O) l g h hmo hOu hl9) (z_in k_1085 rfl) (z_in k_7 rfl) (z_in k_1082 rfl) (z_in k_1084 rfl) (z_in ks_57 rfl) (by decide +kernel) ⟨by first | exact Nat.le_of_ble_eq_true rfl | (dsimp only; omega) | omega, by first | exact Nat.le_of_ble_eq_true rfl | (dsimp only; omega) | omega⟩ hK hE hw hA rfl hmo rfl hl.1 (Nat.le_of_ble_eq_true rfl) d_M_putValue_65 ⟨by first | exact Nat.le_of_ble_eq_true rfl | (dsimp only; omega) | omega, by first | exact Nat.le_of_ble_eq_true rfl | (dsimp only; omega) | omega⟩ rfl (fun r9 h9 H locs hp hw => ?_)
          obtain ⟨r8, m8, o8, k8⟩ := hp
          subst r8
          obtain ⟨h2, e7⟩ : ∃ x9, x9 = h9 := ⟨_, rfl⟩
          subst e7
          generalize eO_2 : O ++ (wdO 9) = O_2 at m8 o8 ln_2
          have oh_2 := o8
          have mh_2 := m8
          have g2_ma_2 : h2 (ma 2) = some ((23, 0), .inl (g.2.1 5, 6, .inr (.inr (.inr (.inr (fun k => some (rw9 k))))))) := k8 _ _ _ hSc.1 (by simp; try omega)
          have g2_rw9_1 : h2 (rw9 1) = some ((24, 1), .inl (g.2.1 1, 128, .inl (rf 1))) := k8 _ _ _ hrw_1 (by simp; try omega)
          have g2_ma_6 : h2 (ma 6) = some ((29, 0), .inl (g.2.1 1, 2000, .inl nf)) := k8 _ _ _ hNd.1 (by simp; try omega)
          have g2_ma_10 : h2 (ma 10) = some ((30, 0), .inl (g.2.1 2, 2000, .inr (.inl nv))) := k8 _ _ _ hNd.2.2.2.2.1 (by simp; try omega)
          have kk2 : z_K (fun y => y = 20 ∨ y = 35) h h2 := kk0.tr k8
          refine W.eq (g2 := F0 m 68 ls []) rfl ?_
          refine lv_goto (tgt := 81) hx hb d_M_putValue_68 (by decide) ?_
          have eF : O ++ (if fTy (S.2 f8) = 4 then GW i else leafO (R.2 i) (fTy (S.2 f8))) = O_2 := by rw [← eO_2]; rw [eV]
          exact z_vret hx hb hr hlocks hw ⟨rfl, by rw [eF]; exact mh_2, eF ▸ oh_2, kk2⟩ (by decide) (by decide) d_M_putValue_81
        · -- 53: False
          have c_53 : (ndNu (R.2 i) : Int64) = 1 := (lg_cmp_eq _ _).mp c_53
          have eV : (if fTy (S.2 f8) = 4 then GW i else leafO (R.2 i) (fTy (S.2 f8))) = wdO 8 := by rw [if_neg (show ¬ fTy (S.2 f8) = 4 from c_16)]; unfold leafO; rw [if_neg (show ¬ fTy (S.2 f8) = 3 from c_29), if_pos (show fTy (S.2 f8) = 0 by simpa using c_41), if_neg (by rw [show ndNu (R.2 i) = 1 by simpa using c_53]; decide)]
          rw [eV] at hl9
          refine lv_ldc2 hx hb hown (hts _ (z_in k_1004 rfl)) d_M_putValue_56 ?_
          refine lv_goto (tgt := 65) hx hb d_M_putValue_59 (by decide) ?_
          have ln_3 : (O ++ (wdO 8)).length = O.length + (wdO 8).length := List.length_append
          refine z_callV (n := 1) (As := [.long 1953658213]) (rest := []) ⟨hx, hb, hml, hown, hts⟩ (m_putTrue (O := O) l g h hmo hOu hl9) (z_in k_1085 rfl) (z_in k_7 rfl) (z_in k_1082 rfl) (z_in k_1084 rfl) (z_in ks_57 rfl) (by decide +kernel) ⟨by first | exact Nat.le_of_ble_eq_true rfl | (dsimp only; omega) | omega, by first | exact Nat.le_of_ble_eq_true rfl | (dsimp only; omega) | omega⟩ hK hE hw hA rfl hmo rfl hl.1 (Nat.le_of_ble_eq_true rfl) d_M_putValue_65 ⟨by first | exact Nat.le_of_ble_eq_true rfl | (dsimp only; omega) | omega, by first | exact Nat.le_of_ble_eq_true rfl | (dsimp only; omega) | omega⟩ rfl (fun r9 h9 H locs hp hw => ?_)
          obtain ⟨r8, m8, o8, k8⟩ := hp
          subst r8
          obtain ⟨h3, e7⟩ : ∃ x9, x9 = h9 := ⟨_, rfl⟩
          subst e7
          generalize eO_3 : O ++ (wdO 8) = O_3 at m8 o8 ln_3
          have oh_3 := o8
          have mh_3 := m8
          have g3_ma_2 : h3 (ma 2) = some ((23, 0), .inl (g.2.1 5, 6, .inr (.inr (.inr (.inr (fun k => some (rw9 k))))))) := k8 _ _ _ hSc.1 (by simp; try omega)
          have g3_rw9_1 : h3 (rw9 1) = some ((24, 1), .inl (g.2.1 1, 128, .inl (rf 1))) := k8 _ _ _ hrw_1 (by simp; try omega)
          have g3_ma_6 : h3 (ma 6) = some ((29, 0), .inl (g.2.1 1, 2000, .inl nf)) := k8 _ _ _ hNd.1 (by simp; try omega)
          have g3_ma_10 : h3 (ma 10) = some ((30, 0), .inl (g.2.1 2, 2000, .inr (.inl nv))) := k8 _ _ _ hNd.2.2.2.2.1 (by simp; try omega)
          have kk3 : z_K (fun y => y = 20 ∨ y = 35) h h3 := kk0.tr k8
          refine W.eq (g2 := F0 m 68 ls []) rfl ?_
          refine lv_goto (tgt := 81) hx hb d_M_putValue_68 (by decide) ?_
          have eF : O ++ (if fTy (S.2 f8) = 4 then GW i else leafO (R.2 i) (fTy (S.2 f8))) = O_3 := by rw [← eO_3]; rw [eV]
          exact z_vret hx hb hr hlocks hw ⟨rfl, by rw [eF]; exact mh_3, eF ▸ oh_3, kk3⟩ (by decide) (by decide) d_M_putValue_81
    · -- 29: False
      have eV : (if fTy (S.2 f8) = 4 then GW i else leafO (R.2 i) (fTy (S.2 f8))) = txO (ndTx (R.2 i)) := by rw [if_neg (show ¬ fTy (S.2 f8) = 4 from c_16)]; unfold leafO; rw [if_pos (show fTy (S.2 f8) = 3 by simpa using c_29)]
      rw [eV] at hl9
      refine lv_aload_n hx hb d_M_putValue_32 rfl (lv_at hl 1 rfl) ?_
      refine lv_iload_n hx hb d_M_putValue_33 rfl (lv_at hl 2 rfl) ?_
      have ln_4 : (O ++ (txO (ndTx (R.2 i)))).length = O.length + (txO (ndTx (R.2 i))).length := List.length_append
      refine z_callV (n := 1) (As := [.int (nI i)]) (rest := []) ⟨hx, hb, hml, hown, hts⟩ (m_putText (i := i) (O := O) l g h hmo hOu hl9 (hNd.k kk0 (by omega) (by omega) (by omega)) hi hi0 hR2 htb9 hby) (z_in k_1077 rfl) (z_in k_7 rfl) (z_in k_1074 rfl) (z_in k_1076 rfl) (z_in ks_55 rfl) (by decide +kernel) ⟨by first | exact Nat.le_of_ble_eq_true rfl | (dsimp only; omega) | omega, by first | exact Nat.le_of_ble_eq_true rfl | (dsimp only; omega) | omega⟩ hK hE hw hA rfl hmo rfl hl.1 (Nat.le_of_ble_eq_true rfl) d_M_putValue_34 ⟨by first | exact Nat.le_of_ble_eq_true rfl | (dsimp only; omega) | omega, by first | exact Nat.le_of_ble_eq_true rfl | (dsimp only; omega) | omega⟩ rfl (fun r9 h9 H locs hp hw => ?_)
      obtain ⟨r8, m8, o8, k8⟩ := hp
      subst r8
      obtain ⟨h4, e7⟩ : ∃ x9, x9 = h9 := ⟨_, rfl⟩
      subst e7
      generalize eO_4 : O ++ (txO (ndTx (R.2 i))) = O_4 at m8 o8 ln_4
      have oh_4 := o8
      have mh_4 := m8
      have g4_ma_2 : h4 (ma 2) = some ((23, 0), .inl (g.2.1 5, 6, .inr (.inr (.inr (.inr (fun k => some (rw9 k))))))) := k8 _ _ _ hSc.1 (by simp; try omega)
      have g4_rw9_1 : h4 (rw9 1) = some ((24, 1), .inl (g.2.1 1, 128, .inl (rf 1))) := k8 _ _ _ hrw_1 (by simp; try omega)
      have g4_ma_6 : h4 (ma 6) = some ((29, 0), .inl (g.2.1 1, 2000, .inl nf)) := k8 _ _ _ hNd.1 (by simp; try omega)
      have g4_ma_10 : h4 (ma 10) = some ((30, 0), .inl (g.2.1 2, 2000, .inr (.inl nv))) := k8 _ _ _ hNd.2.2.2.2.1 (by simp; try omega)
      have kk4 : z_K (fun y => y = 20 ∨ y = 35) h h4 := kk0.tr k8
      refine W.eq (g2 := F0 m 37 ls []) rfl ?_
      refine lv_goto (tgt := 81) hx hb d_M_putValue_37 (by decide) ?_
      have eF : O ++ (if fTy (S.2 f8) = 4 then GW i else leafO (R.2 i) (fTy (S.2 f8))) = O_4 := by rw [← eO_4]; rw [eV]
      exact z_vret hx hb hr hlocks hw ⟨rfl, by rw [eF]; exact mh_4, eF ▸ oh_4, kk4⟩ (by decide) (by decide) d_M_putValue_81
  · -- 16: False
    have e16 : fTy (S.2 f8) = 4 := by simpa using c_16
    have eV : (if fTy (S.2 f8) = 4 then GW i else leafO (R.2 i) (fTy (S.2 f8))) = GW i := by rw [if_pos e16]
    rw [eV] at hl9
    refine lv_aload_n hx hb d_M_putValue_19 rfl (lv_at hl 1 rfl) ?_
    refine lv_iload_n hx hb d_M_putValue_20 rfl (lv_at hl 2 rfl) ?_
    have ln_5 : (O ++ (GW i)).length = O.length + (GW i).length := List.length_append
    refine z_callV (n := 1) (As := [.int (nI i)]) (rest := []) ⟨hx, hb, hml, hown, hts⟩ (hG e16 h O hmo (hSc.k kk0 (by omega) (by omega) (by omega)) (hNd.k kk0 (by omega) (by omega) (by omega)) hOu hl9) (z_in k_1065 rfl) (z_in k_7 rfl) (z_in k_1062 rfl) (z_in k_1064 rfl) (z_in ks_52 rfl) (by decide +kernel) ⟨by first | exact Nat.le_of_ble_eq_true rfl | (dsimp only; omega) | omega, by first | exact Nat.le_of_ble_eq_true rfl | (dsimp only; omega) | omega⟩ hK hE hw hA rfl hmo rfl hl.1 (Nat.le_of_ble_eq_true rfl) d_M_putValue_21 ⟨by first | exact Nat.le_of_ble_eq_true rfl | (dsimp only; omega) | omega, by first | exact Nat.le_of_ble_eq_true rfl | (dsimp only; omega) | omega⟩ rfl (fun r9 h9 H locs hp hw => ?_)
    obtain ⟨r8, m8, o8, k8⟩ := hp
    subst r8
    obtain ⟨h5, e7⟩ : ∃ x9, x9 = h9 := ⟨_, rfl⟩
    subst e7
    generalize eO_5 : O ++ (GW i) = O_5 at m8 o8 ln_5
    have oh_5 := o8
    have mh_5 := m8
    have g5_ma_2 : h5 (ma 2) = some ((23, 0), .inl (g.2.1 5, 6, .inr (.inr (.inr (.inr (fun k => some (rw9 k))))))) := k8 _ _ _ hSc.1 (by simp; try omega)
    have g5_rw9_1 : h5 (rw9 1) = some ((24, 1), .inl (g.2.1 1, 128, .inl (rf 1))) := k8 _ _ _ hrw_1 (by simp; try omega)
    have g5_ma_6 : h5 (ma 6) = some ((29, 0), .inl (g.2.1 1, 2000, .inl nf)) := k8 _ _ _ hNd.1 (by simp; try omega)
    have g5_ma_10 : h5 (ma 10) = some ((30, 0), .inl (g.2.1 2, 2000, .inr (.inl nv))) := k8 _ _ _ hNd.2.2.2.2.1 (by simp; try omega)
    have kk5 : z_K (fun y => y = 20 ∨ y = 35) h h5 := kk0.tr k8
    refine W.eq (g2 := F0 m 24 ls []) rfl ?_
    refine lv_goto (tgt := 81) hx hb d_M_putValue_24 (by decide) ?_
    have eF : O ++ (if fTy (S.2 f8) = 4 then GW i else leafO (R.2 i) (fTy (S.2 f8))) = O_5 := by rw [← eO_5]; rw [eV]
    exact z_vret hx hb hr hlocks hw ⟨rfl, by rw [eF]; exact mh_5, eF ▸ oh_5, kk5⟩ (by decide) (by decide) d_M_putValue_81

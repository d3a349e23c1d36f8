theorem vp_updL_us {f : Nat → Int64} {k : Nat} {v : Int64} : vp_updL f k v k = v := by unfold vp_updL; simp
theorem vp_updL_un {f : Nat → Int64} {k j : Nat} {v : Int64} (h : ¬ j = k) : vp_updL f k v j = f j := by unfold vp_updL; simp [h]
theorem MNp.same {g : z_G} {h h1 : z_H} {ma : Nat → Nat} {R : Rec} {nf np nr ns : Nat → Int32} {nv : Nat → Int64} {tx : Nat → Int32} (x : MNp g h ma R nf np nr ns nv tx) {nf2 np2 nr2 ns2 : Nat → Int32} {nv2 : Nat → Int64} {tx2 : Nat → Int32} (c0 : h1 (ma 6) = some ((29, 0), .inl (g.2.1 1, 2000, .inl nf2))) (c1 : h1 (ma 7) = some ((29, 1), .inl (g.2.1 1, 2000, .inl np2))) (c2 : h1 (ma 8) = some ((29, 2), .inl (g.2.1 1, 2000, .inl nr2))) (c3 : h1 (ma 9) = some ((29, 3), .inl (g.2.1 1, 2000, .inl ns2))) (c4 : h1 (ma 10) = some ((30, 0), .inl (g.2.1 2, 2000, .inr (.inl nv2)))) (c5 : h1 (ma 11) = some ((31, 0), .inl (g.2.1 1, 16000, .inl tx2))) (e : ∀ j, j < R.1 → nf2 j = nf j ∧ np2 j = np j ∧ nr2 j = nr j ∧ ns2 j = ns j ∧ nv2 j = nv j) (e2 : ∀ j, j < tbC R.2 R.1 → tx2 j = tx j) : MNp g h1 ma R nf2 np2 nr2 ns2 nv2 tx2 := by
  refine ⟨c0, c1, c2, c3, c4, c5, fun i hi => ?_⟩
  have h1 := x.2.2.2.2.2.2 i hi
  have h2 := e i hi
  refine ⟨h2.1.trans h1.1, h2.2.1.trans h1.2.1, fun z => ?_⟩
  have h3 := h1.2.2 z
  have h4 := tbC_in R.2 hi
  exact ⟨h2.2.2.1.trans h3.1, h2.2.2.2.1.trans h3.2.1, h2.2.2.2.2.trans h3.2.2.1, fun k hk => by rw [e2 _ (by omega)]; exact h3.2.2.2 k hk⟩

set_option maxHeartbeats 4000000 in
set_option maxRecDepth 100000 in
theorem m_record_ok (l : Launch) (g : z_G) (h : z_H) {mo : Nat} {T : List Nat} {S : Sch} {R : Rec} {O : List Nat} {i : Nat} {dp : Nat → Nat}  (hM : MAt g h mo T S R O) (hi : i ≤ T.length) (hR0 : 0 < R.1 ∧ ndFi (R.2 0) = -1 ∧ ndPa (R.2 0) = -1) (hR2 : R.1 ≤ 2000) (htb9 : tbC R.2 R.1 ≤ 16000) (hB : scB S) (hu : unq S) (hgr : grOK S) (hdp : dpOK S dp) (hty : tyOK S) : z_C l y_M_record prog_13_method_36_code 5 (Option.some Jvm.ClassFile.FieldType.int) 690 14000 0 0 g [.ref mo, .int (nI i)] h (fun x h1 => MPt g h x (.int (oRecord T S R (nI i)).1) h1 mo (oRecord T S R (nI i)).2.1 S (oRecord T S R (nI i)).2.2 O) := by
  refine z_C.of (by decide) (Nat.le_of_ble_eq_true rfl) (fun pg en s m below meth cd A ls hx hb hml hr hts hown hlocks hnm hK hE hA hw hl => ?_)
  have hl : lv_has ls 5 [(0, .ref mo), (1, .int (nI i))] := hl
  obtain ⟨ma, cod, siz, ffl, fcl, at9, il, hmo, hTp, hTx, ⟨rw9, rf, lf, hSc⟩, hSf, ⟨nf, np, nr, ns, nv, tx, hNd⟩, hOl, hOu⟩ := id hM
  obtain ⟨ftp, htp, hT4, hTv⟩ := id hTp
  obtain ⟨fou, hou, hO6, hOv⟩ := id hOu
  obtain ⟨ftx, htx⟩ := id hTx
  obtain ⟨of, op, or9, os, ov, ox, hol1, hol2, hol3, hol4, hol5, hol6⟩ := id hOl
  have hs8 := hB.1
  have hN0 := hNd.2.2.2.2.2.2 0 hR0.1
  have kk0 : z_K (fun y => y = 20 ∨ y = 22 ∨ y = 29 ∨ y = 30 ∨ y = 31 ∨ y = 32 ∨ y = 33 ∨ y = 34) h h := z_K.rf
  refine lv_aload_n hx hb d_M_record_0 rfl (lv_at hl 0 rfl) ?_
  refine lv_iconst (v := 0) hx hb d_M_record_1 (by decide) ?_
  refine z_putf (ty := .int) hx hb hts (z_lay i_M) t_M t_M_ok n_M hown hK hw hmo rfl 0 (by decide) (z_in k_771 rfl) (fun _ h9 => h9) rfl (by decide +kernel) rfl rfl (Nat.le_of_ble_eq_true rfl) d_M_record_2 (fun H locs hw => ?_)
  obtain ⟨h1, hh1⟩ : ∃ x9, z_put h mo (20, 0) (.inr (11, mF ma 0 (nI T.length) siz (nI S.1) (nI (cc S)) ffl fcl (nI R.1) (nI (tbC R.2 R.1)) (nI O.length) at9 il)) = x9 := ⟨_, rfl⟩
  have hw : z_S g A s.heap h1 H locs := by rw [← hh1]; exact hw
  have f1_mo : h1 mo = some ((20, 0), .inr (11, mF ma 0 (nI T.length) siz (nI S.1) (nI (cc S)) ffl fcl (nI R.1) (nI (tbC R.2 R.1)) (nI O.length) at9 il)) := by rw [← hh1]; exact z_put_eq
  have f1_ma_1 : h1 (ma 1) = some ((22, 0), .inl (g.2.1 1, 4000, .inl ftx)) := by rw [← hh1]; exact z_keep hmo htx (z_t1 (by decide))
  have f1_ma_0 : h1 (ma 0) = some ((21, 0), .inl (g.2.1 1, 4000, .inl ftp)) := by rw [← hh1]; exact z_keep hmo htp (z_t1 (by decide))
  have f1_ma_6 : h1 (ma 6) = some ((29, 0), .inl (g.2.1 1, 2000, .inl nf)) := by rw [← hh1]; exact z_keep hmo hNd.1 (z_t1 (by decide))
  have f1_ma_7 : h1 (ma 7) = some ((29, 1), .inl (g.2.1 1, 2000, .inl np)) := by rw [← hh1]; exact z_keep hmo hNd.2.1 (z_t1 (by decide))
  have f1_ma_8 : h1 (ma 8) = some ((29, 2), .inl (g.2.1 1, 2000, .inl nr)) := by rw [← hh1]; exact z_keep hmo hNd.2.2.1 (z_t1 (by decide))
  have f1_ma_9 : h1 (ma 9) = some ((29, 3), .inl (g.2.1 1, 2000, .inl ns)) := by rw [← hh1]; exact z_keep hmo hNd.2.2.2.1 (z_t1 (by decide))
  have f1_ma_10 : h1 (ma 10) = some ((30, 0), .inl (g.2.1 2, 2000, .inr (.inl nv))) := by rw [← hh1]; exact z_keep hmo hNd.2.2.2.2.1 (z_t1 (by decide))
  have f1_ma_11 : h1 (ma 11) = some ((31, 0), .inl (g.2.1 1, 16000, .inl tx)) := by rw [← hh1]; exact z_keep hmo hNd.2.2.2.2.2.1 (z_t1 (by decide))
  have f1_ma_12 : h1 (ma 12) = some ((32, 0), .inl (g.2.1 1, 2000, .inl of)) := by rw [← hh1]; exact z_keep hmo hol1 (z_t1 (by decide))
  have f1_ma_13 : h1 (ma 13) = some ((32, 1), .inl (g.2.1 1, 2000, .inl op)) := by rw [← hh1]; exact z_keep hmo hol2 (z_t1 (by decide))
  have f1_ma_14 : h1 (ma 14) = some ((32, 2), .inl (g.2.1 1, 2000, .inl or9)) := by rw [← hh1]; exact z_keep hmo hol3 (z_t1 (by decide))
  have f1_ma_15 : h1 (ma 15) = some ((32, 3), .inl (g.2.1 1, 2000, .inl os)) := by rw [← hh1]; exact z_keep hmo hol4 (z_t1 (by decide))
  have f1_ma_16 : h1 (ma 16) = some ((33, 0), .inl (g.2.1 2, 2000, .inr (.inl ov))) := by rw [← hh1]; exact z_keep hmo hol5 (z_t1 (by decide))
  have f1_ma_17 : h1 (ma 17) = some ((34, 0), .inl (g.2.1 1, 16000, .inl ox)) := by rw [← hh1]; exact z_keep hmo hol6 (z_t1 (by decide))
  have kk1 : z_K (fun y => y = 20 ∨ y = 22 ∨ y = 29 ∨ y = 30 ∨ y = 31 ∨ y = 32 ∨ y = 33 ∨ y = 34) h h1 := kk0.tr (by rw [← hh1]; exact z_K.put hmo (by first | decide | simp | omega))
  refine lv_aload_n hx hb d_M_record_5 rfl (lv_at hl 0 rfl) ?_
  refine lv_iload_n hx hb d_M_record_6 rfl (lv_at hl 1 rfl) ?_
  refine z_callV (n := 1) (As := [.int (nI i)]) (rest := []) ⟨hx, hb, hml, hown, hts⟩ (m_takes (n := i) l g h1 f1_mo f1_ma_1 f1_ma_0 hT4 hi) (z_in k_877 rfl) (z_in k_7 rfl) (z_in k_874 rfl) (z_in k_876 rfl) (z_in ks_25 rfl) (by decide +kernel) ⟨by first | exact Nat.le_of_ble_eq_true rfl | (dsimp only; omega) | omega, by first | exact Nat.le_of_ble_eq_true rfl | (dsimp only; omega) | omega⟩ hK hE hw hA rfl f1_mo rfl hl.1 (Nat.le_of_ble_eq_true rfl) d_M_record_7 ⟨by first | exact Nat.le_of_ble_eq_true rfl | (dsimp only; omega) | omega, by first | exact Nat.le_of_ble_eq_true rfl | (dsimp only; omega) | omega⟩ rfl (fun r9 h9 H locs hp hw => ?_)
  obtain ⟨f2, r8, m8, t8, cp8, k8⟩ := hp
  subst r8
  obtain ⟨h2, e7⟩ : ∃ x9, x9 = h9 := ⟨_, rfl⟩
  subst e7
  have g2_ma_0 : h2 (ma 0) = some ((21, 0), .inl (g.2.1 1, 4000, .inl ftp)) := k8 _ _ _ f1_ma_0 (by simp)
  have g2_ma_6 : h2 (ma 6) = some ((29, 0), .inl (g.2.1 1, 2000, .inl nf)) := k8 _ _ _ f1_ma_6 (by simp)
  have g2_ma_7 : h2 (ma 7) = some ((29, 1), .inl (g.2.1 1, 2000, .inl np)) := k8 _ _ _ f1_ma_7 (by simp)
  have g2_ma_8 : h2 (ma 8) = some ((29, 2), .inl (g.2.1 1, 2000, .inl nr)) := k8 _ _ _ f1_ma_8 (by simp)
  have g2_ma_9 : h2 (ma 9) = some ((29, 3), .inl (g.2.1 1, 2000, .inl ns)) := k8 _ _ _ f1_ma_9 (by simp)
  have g2_ma_10 : h2 (ma 10) = some ((30, 0), .inl (g.2.1 2, 2000, .inr (.inl nv))) := k8 _ _ _ f1_ma_10 (by simp)
  have g2_ma_11 : h2 (ma 11) = some ((31, 0), .inl (g.2.1 1, 16000, .inl tx)) := k8 _ _ _ f1_ma_11 (by simp)
  have g2_ma_12 : h2 (ma 12) = some ((32, 0), .inl (g.2.1 1, 2000, .inl of)) := k8 _ _ _ f1_ma_12 (by simp)
  have g2_ma_13 : h2 (ma 13) = some ((32, 1), .inl (g.2.1 1, 2000, .inl op)) := k8 _ _ _ f1_ma_13 (by simp)
  have g2_ma_14 : h2 (ma 14) = some ((32, 2), .inl (g.2.1 1, 2000, .inl or9)) := k8 _ _ _ f1_ma_14 (by simp)
  have g2_ma_15 : h2 (ma 15) = some ((32, 3), .inl (g.2.1 1, 2000, .inl os)) := k8 _ _ _ f1_ma_15 (by simp)
  have g2_ma_16 : h2 (ma 16) = some ((33, 0), .inl (g.2.1 2, 2000, .inr (.inl ov))) := k8 _ _ _ f1_ma_16 (by simp)
  have g2_ma_17 : h2 (ma 17) = some ((34, 0), .inl (g.2.1 1, 16000, .inl ox)) := k8 _ _ _ f1_ma_17 (by simp)
  have kk2 : z_K (fun y => y = 20 ∨ y = 22 ∨ y = 29 ∨ y = 30 ∨ y = 31 ∨ y = 32 ∨ y = 33 ∨ y = 34) h h2 := kk1.tr (k8.mono (fun y z => by omega))
  have hn4 : i ≤ 4000 := by omega
  have hf2 : ∀ k, k < i → tT T k < 256 ∧ f2 k = nI (tT T k) := fun k hk => ⟨(hTv k (by omega)).1, by rw [cp8 k hk]; exact (hTv k (by omega)).2⟩
  refine W.eq (g2 := F0 m 10 ls [.int 1]) rfl ?_
  refine lv_if_ne (tgt := 16) hx hb d_M_record_10 (by decide) (fun c_10 => ?_) (fun c_10 => ?_)
  · -- 10: True
    refine lv_aload_n hx hb d_M_record_16 rfl (lv_at hl 0 rfl) ?_
    refine z_get hx hb hts (z_lay i_M) hown hK hw m8 rfl 9 (by decide) (z_in k_780 rfl) (fun _ h9 => h9) rfl d_M_record_17 ?_
    refine lv_if_ne (tgt := 25) hx hb d_M_record_20 (by decide) (fun c_20 => ?_) (fun c_20 => ?_)
    · -- 20: True
      have c_20 : ¬ (S.1 = 0) := fun z => c_20 ((nI_eq (a := S.1) (b := 0) (by omega) (by omega)).mpr z)
      refine lv_aload_n hx hb d_M_record_25 rfl (lv_at hl 0 rfl) ?_
      refine z_get hx hb hts (z_lay i_M) hown hK hw m8 rfl 18 (by decide) (z_in k_789 rfl) (fun _ h9 => h9) rfl d_M_record_26 ?_
      refine lv_istore_n (lv' := [(2, .int (nI R.1)), (0, .ref mo), (1, .int (nI i))]) hx hb d_M_record_29 rfl hl (by decide) rfl (fun ls hl => ?_)
      refine lv_aload_n hx hb d_M_record_30 rfl (lv_at hl 1 rfl) ?_
      refine z_get hx hb hts (z_lay i_M) hown hK hw m8 rfl 19 (by decide) (z_in k_790 rfl) (fun _ h9 => h9) rfl d_M_record_31 ?_
      refine lv_istore_n (lv' := [(3, .int (nI (tbC R.2 R.1))), (2, .int (nI R.1)), (0, .ref mo), (1, .int (nI i))]) hx hb d_M_record_34 rfl hl (by decide) rfl (fun ls hl => ?_)
      refine lv_iconst (v := 0) hx hb d_M_record_35 (by decide) ?_
      refine lv_istore (lv' := [(4, .int 0), (3, .int (nI (tbC R.2 R.1))), (2, .int (nI R.1)), (0, .ref mo), (1, .int (nI i))]) hx hb d_M_record_36 hl (by decide) rfl (fun ls hl => ?_)
      have loop_38 : ∀ (fuel : Nat) (k : Nat) (of2 : Nat → Int32) (op2 : Nat → Int32) (or2 : Nat → Int32) (os2 : Nat → Int32) (ov2 : Nat → Int64) (hZA : z_H) (H : Heap) (locs : List Loc) (ls : Array Slot) (L38_mo : hZA mo = some ((20, 0), .inr (11, mF ma 0 0 (nI i) (nI S.1) (nI (cc S)) ffl fcl (nI R.1) (nI (tbC R.2 R.1)) (nI O.length) 0 (-1)))) (L38_ma_1 : hZA (ma 1) = some ((22, 0), .inl (g.2.1 1, 4000, .inl f2))) (L38_ma_0 : hZA (ma 0) = some ((21, 0), .inl (g.2.1 1, 4000, .inl ftp))) (L38_ma_6 : hZA (ma 6) = some ((29, 0), .inl (g.2.1 1, 2000, .inl nf))) (L38_ma_7 : hZA (ma 7) = some ((29, 1), .inl (g.2.1 1, 2000, .inl np))) (L38_ma_8 : hZA (ma 8) = some ((29, 2), .inl (g.2.1 1, 2000, .inl nr))) (L38_ma_9 : hZA (ma 9) = some ((29, 3), .inl (g.2.1 1, 2000, .inl ns))) (L38_ma_10 : hZA (ma 10) = some ((30, 0), .inl (g.2.1 2, 2000, .inr (.inl nv)))) (L38_ma_11 : hZA (ma 11) = some ((31, 0), .inl (g.2.1 1, 16000, .inl tx))) (L38_ma_12 : hZA (ma 12) = some ((32, 0), .inl (g.2.1 1, 2000, .inl of2))) (L38_ma_13 : hZA (ma 13) = some ((32, 1), .inl (g.2.1 1, 2000, .inl op2))) (L38_ma_14 : hZA (ma 14) = some ((32, 2), .inl (g.2.1 1, 2000, .inl or2))) (L38_ma_15 : hZA (ma 15) = some ((32, 3), .inl (g.2.1 1, 2000, .inl os2))) (L38_ma_16 : hZA (ma 16) = some ((33, 0), .inl (g.2.1 2, 2000, .inr (.inl ov2)))) (L38_ma_17 : hZA (ma 17) = some ((34, 0), .inl (g.2.1 1, 16000, .inl ox))) (hk9 : k ≤ R.1) (hsv : ∀ j, j < k → of2 j = nf j ∧ op2 j = np j ∧ or2 j = nr j ∧ os2 j = ns j ∧ ov2 j = nv j) (kkA : z_K (fun y => y = 20 ∨ y = 22 ∨ y = 29 ∨ y = 30 ∨ y = 31 ∨ y = 32 ∨ y = 33 ∨ y = 34) h hZA), (R.1 - k) < fuel → z_S g A s.heap hZA H locs → lv_has ls 5 [(0, .ref mo), (1, .int (nI i)), (2, .int (nI R.1)), (3, .int (nI (tbC R.2 R.1))), (4, .int (nI k))] → W pg l en { frames := 690, cells := 0, slots := 0, locals := 14000 } s m [.ref mo, .int (nI i)].toArray below meth cd H locs 0 0 (MQ below (z_Q g A (fun x h1 => MPt g h x (.int (oRecord T S R (nI i)).1) h1 mo (oRecord T S R (nI i)).2.1 S (oRecord T S R (nI i)).2.2 O)) [.ref mo, .int (nI i)].toArray s 0 0 A) (F0 m 38 ls []) := by
        intro fuel
        induction fuel with
        | zero => intro k of2 op2 or2 os2 ov2 hZA H locs ls L38_mo L38_ma_1 L38_ma_0 L38_ma_6 L38_ma_7 L38_ma_8 L38_ma_9 L38_ma_10 L38_ma_11 L38_ma_12 L38_ma_13 L38_ma_14 L38_ma_15 L38_ma_16 L38_ma_17 hk9 hsv kkA hm; exact absurd hm (Nat.not_lt_zero _)
        | succ fuel ih_38 =>
          intro k of2 op2 or2 os2 ov2 hZA H locs ls L38_mo L38_ma_1 L38_ma_0 L38_ma_6 L38_ma_7 L38_ma_8 L38_ma_9 L38_ma_10 L38_ma_11 L38_ma_12 L38_ma_13 L38_ma_14 L38_ma_15 L38_ma_16 L38_ma_17 hk9 hsv kkA hm hw hl
          refine lv_iload hx hb d_M_record_38 (lv_at hl 4 rfl) ?_
          refine lv_aload_n hx hb d_M_record_40 rfl (lv_at hl 0 rfl) ?_
          refine z_get hx hb hts (z_lay i_M) hown hK hw L38_mo rfl 18 (by decide) (z_in k_789 rfl) (fun _ h9 => h9) rfl d_M_record_41 ?_
          refine lv_icmp_ge (tgt := 123) hx hb d_M_record_44 (by decide) (fun c_44 => ?_) (fun c_44 => ?_)
          · -- 44: True
            have c_44 : R.1 ≤ k := (nI_leI (a := R.1) (b := k) (by omega) (by omega)).mp c_44
            refine lv_iconst (v := 0) hx hb d_M_record_123 (by decide) ?_
            refine lv_istore (lv' := [(4, .int 0), (0, .ref mo), (1, .int (nI i)), (2, .int (nI R.1)), (3, .int (nI (tbC R.2 R.1)))]) hx hb d_M_record_124 hl (by decide) rfl (fun ls hl => ?_)
            have loop_126 : ∀ (fuel : Nat) (k2 : Nat) (ox2 : Nat → Int32) (hB9 : z_H) (H : Heap) (locs : List Loc) (ls : Array Slot) (L126_mo : hB9 mo = some ((20, 0), .inr (11, mF ma 0 0 (nI i) (nI S.1) (nI (cc S)) ffl fcl (nI R.1) (nI (tbC R.2 R.1)) (nI O.length) 0 (-1)))) (L126_ma_1 : hB9 (ma 1) = some ((22, 0), .inl (g.2.1 1, 4000, .inl f2))) (L126_ma_0 : hB9 (ma 0) = some ((21, 0), .inl (g.2.1 1, 4000, .inl ftp))) (L126_ma_6 : hB9 (ma 6) = some ((29, 0), .inl (g.2.1 1, 2000, .inl nf))) (L126_ma_7 : hB9 (ma 7) = some ((29, 1), .inl (g.2.1 1, 2000, .inl np))) (L126_ma_8 : hB9 (ma 8) = some ((29, 2), .inl (g.2.1 1, 2000, .inl nr))) (L126_ma_9 : hB9 (ma 9) = some ((29, 3), .inl (g.2.1 1, 2000, .inl ns))) (L126_ma_10 : hB9 (ma 10) = some ((30, 0), .inl (g.2.1 2, 2000, .inr (.inl nv)))) (L126_ma_11 : hB9 (ma 11) = some ((31, 0), .inl (g.2.1 1, 16000, .inl tx))) (L126_ma_12 : hB9 (ma 12) = some ((32, 0), .inl (g.2.1 1, 2000, .inl of2))) (L126_ma_13 : hB9 (ma 13) = some ((32, 1), .inl (g.2.1 1, 2000, .inl op2))) (L126_ma_14 : hB9 (ma 14) = some ((32, 2), .inl (g.2.1 1, 2000, .inl or2))) (L126_ma_15 : hB9 (ma 15) = some ((32, 3), .inl (g.2.1 1, 2000, .inl os2))) (L126_ma_16 : hB9 (ma 16) = some ((33, 0), .inl (g.2.1 2, 2000, .inr (.inl ov2)))) (L126_ma_17 : hB9 (ma 17) = some ((34, 0), .inl (g.2.1 1, 16000, .inl ox2))) (hk2 : k2 ≤ tbC R.2 R.1) (hsx : ∀ j, j < k2 → ox2 j = tx j) (kkB : z_K (fun y => y = 20 ∨ y = 22 ∨ y = 29 ∨ y = 30 ∨ y = 31 ∨ y = 32 ∨ y = 33 ∨ y = 34) h hB9), (tbC R.2 R.1 - k2) < fuel → z_S g A s.heap hB9 H locs → lv_has ls 5 [(0, .ref mo), (1, .int (nI i)), (2, .int (nI R.1)), (3, .int (nI (tbC R.2 R.1))), (4, .int (nI k2))] → W pg l en { frames := 690, cells := 0, slots := 0, locals := 14000 } s m [.ref mo, .int (nI i)].toArray below meth cd H locs 0 0 (MQ below (z_Q g A (fun x h1 => MPt g h x (.int (oRecord T S R (nI i)).1) h1 mo (oRecord T S R (nI i)).2.1 S (oRecord T S R (nI i)).2.2 O)) [.ref mo, .int (nI i)].toArray s 0 0 A) (F0 m 126 ls []) := by
              intro fuel
              induction fuel with
              | zero => intro k2 ox2 hB9 H locs ls L126_mo L126_ma_1 L126_ma_0 L126_ma_6 L126_ma_7 L126_ma_8 L126_ma_9 L126_ma_10 L126_ma_11 L126_ma_12 L126_ma_13 L126_ma_14 L126_ma_15 L126_ma_16 L126_ma_17 hk2 hsx kkB hm; exact absurd hm (Nat.not_lt_zero _)
              | succ fuel ih_126 =>
                intro k2 ox2 hB9 H locs ls L126_mo L126_ma_1 L126_ma_0 L126_ma_6 L126_ma_7 L126_ma_8 L126_ma_9 L126_ma_10 L126_ma_11 L126_ma_12 L126_ma_13 L126_ma_14 L126_ma_15 L126_ma_16 L126_ma_17 hk2 hsx kkB hm hw hl
                refine lv_iload hx hb d_M_record_126 (lv_at hl 4 rfl) ?_
                refine lv_aload_n hx hb d_M_record_128 rfl (lv_at hl 0 rfl) ?_
                refine z_get hx hb hts (z_lay i_M) hown hK hw L126_mo rfl 19 (by decide) (z_in k_790 rfl) (fun _ h9 => h9) rfl d_M_record_129 ?_
                refine lv_icmp_ge (tgt := 155) hx hb d_M_record_132 (by decide) (fun c_132 => ?_) (fun c_132 => ?_)
                · -- 132: True
                  have c_132 : (tbC R.2 R.1) ≤ k2 := (nI_leI (a := tbC R.2 R.1) (b := k2) (by omega) (by omega)).mp c_132
                  refine lv_aload_n hx hb d_M_record_155 rfl (lv_at hl 0 rfl) ?_
                  refine z_callV (n := 0) (As := []) (rest := []) ⟨hx, hb, hml, hown, hts⟩ (m_empty l g hB9 L126_mo) (z_in k_931 rfl) (z_in k_7 rfl) (z_in k_928 rfl) (z_in k_930 rfl) (z_in ks_35 rfl) (by decide +kernel) ⟨by first | exact Nat.le_of_ble_eq_true rfl | (dsimp only; omega) | omega, by first | exact Nat.le_of_ble_eq_true rfl | (dsimp only; omega) | omega⟩ hK hE hw hA rfl L126_mo rfl hl.1 (Nat.le_of_ble_eq_true rfl) d_M_record_156 ⟨by first | exact Nat.le_of_ble_eq_true rfl | (dsimp only; omega) | omega, by first | exact Nat.le_of_ble_eq_true rfl | (dsimp only; omega) | omega⟩ rfl (fun r9 h9 H locs hp hw => ?_)
                  obtain ⟨r8, hh3⟩ := hp
                  subst r8
                  obtain ⟨h3, e8⟩ : ∃ x9, x9 = h9 := ⟨_, rfl⟩
                  subst e8
                  have f3_mo : h3 mo = some ((20, 0), .inr (11, mF ma 0 0 (nI i) (nI S.1) (nI (cc S)) ffl fcl 1 0 (nI O.length) 0 (-1))) := by rw [← hh3]; exact z_put_eq
                  have f3_ma_1 : h3 (ma 1) = some ((22, 0), .inl (g.2.1 1, 4000, .inl f2)) := by rw [← hh3]; exact z_keep L126_mo L126_ma_1 (z_t1 (by decide))
                  have f3_ma_0 : h3 (ma 0) = some ((21, 0), .inl (g.2.1 1, 4000, .inl ftp)) := by rw [← hh3]; exact z_keep L126_mo L126_ma_0 (z_t1 (by decide))
                  have f3_ma_6 : h3 (ma 6) = some ((29, 0), .inl (g.2.1 1, 2000, .inl nf)) := by rw [← hh3]; exact z_keep L126_mo L126_ma_6 (z_t1 (by decide))
                  have f3_ma_7 : h3 (ma 7) = some ((29, 1), .inl (g.2.1 1, 2000, .inl np)) := by rw [← hh3]; exact z_keep L126_mo L126_ma_7 (z_t1 (by decide))
                  have f3_ma_8 : h3 (ma 8) = some ((29, 2), .inl (g.2.1 1, 2000, .inl nr)) := by rw [← hh3]; exact z_keep L126_mo L126_ma_8 (z_t1 (by decide))
                  have f3_ma_9 : h3 (ma 9) = some ((29, 3), .inl (g.2.1 1, 2000, .inl ns)) := by rw [← hh3]; exact z_keep L126_mo L126_ma_9 (z_t1 (by decide))
                  have f3_ma_10 : h3 (ma 10) = some ((30, 0), .inl (g.2.1 2, 2000, .inr (.inl nv))) := by rw [← hh3]; exact z_keep L126_mo L126_ma_10 (z_t1 (by decide))
                  have f3_ma_11 : h3 (ma 11) = some ((31, 0), .inl (g.2.1 1, 16000, .inl tx)) := by rw [← hh3]; exact z_keep L126_mo L126_ma_11 (z_t1 (by decide))
                  have f3_ma_12 : h3 (ma 12) = some ((32, 0), .inl (g.2.1 1, 2000, .inl of2)) := by rw [← hh3]; exact z_keep L126_mo L126_ma_12 (z_t1 (by decide))
                  have f3_ma_13 : h3 (ma 13) = some ((32, 1), .inl (g.2.1 1, 2000, .inl op2)) := by rw [← hh3]; exact z_keep L126_mo L126_ma_13 (z_t1 (by decide))
                  have f3_ma_14 : h3 (ma 14) = some ((32, 2), .inl (g.2.1 1, 2000, .inl or2)) := by rw [← hh3]; exact z_keep L126_mo L126_ma_14 (z_t1 (by decide))
                  have f3_ma_15 : h3 (ma 15) = some ((32, 3), .inl (g.2.1 1, 2000, .inl os2)) := by rw [← hh3]; exact z_keep L126_mo L126_ma_15 (z_t1 (by decide))
                  have f3_ma_16 : h3 (ma 16) = some ((33, 0), .inl (g.2.1 2, 2000, .inr (.inl ov2))) := by rw [← hh3]; exact z_keep L126_mo L126_ma_16 (z_t1 (by decide))
                  have f3_ma_17 : h3 (ma 17) = some ((34, 0), .inl (g.2.1 1, 16000, .inl ox2)) := by rw [← hh3]; exact z_keep L126_mo L126_ma_17 (z_t1 (by decide))
                  have kk3 : z_K (fun y => y = 20 ∨ y = 22 ∨ y = 29 ∨ y = 30 ∨ y = 31 ∨ y = 32 ∨ y = 33 ∨ y = 34) h h3 := kkB.tr (by rw [← hh3]; exact z_K.put L126_mo (by first | decide | simp | omega))
                  refine W.eq (g2 := F0 m 159 ls []) rfl ?_
                  refine lv_aload_n hx hb d_M_record_159 rfl (lv_at hl 0 rfl) ?_
                  refine lv_iconst (v := 0) hx hb d_M_record_160 (by decide) ?_
                  refine lv_iconst (v := (-1)) hx hb d_M_record_161 (by decide) ?_
                  have hS7 : ¬ S.1 = 0 := c_20
                  have hNz : MNp g h3 ma rec0 nf np nr ns nv tx := (MNp.same hNd f3_ma_6 f3_ma_7 f3_ma_8 f3_ma_9 f3_ma_10 f3_ma_11 (fun j _ => ⟨rfl, rfl, rfl, rfl, rfl⟩) (fun j _ => rfl)).zero ⟨hN0.1.trans hR0.2.1, hN0.2.1.trans hR0.2.2⟩
                  refine z_callV (n := 2) (As := [.int 0, .int (-1)]) (rest := []) ⟨hx, hb, hml, hown, hts⟩ (m_readGroup_top (t := tT T) (n := i) l g hn4 hf2 hB hu hgr hdp hty h3 0 rec0 0 f3_mo f3_ma_1 (hSc.k kk3 (by omega) (by omega) (by omega)) ⟨_, _, _, _, _, _, hNz⟩ (by decide) (Nat.zero_le _) (by decide) (by decide)) (z_in k_971 rfl) (z_in k_7 rfl) (z_in k_968 rfl) (z_in k_970 rfl) (z_in ks_39 rfl) (by decide +kernel) ⟨by first | exact Nat.le_of_ble_eq_true rfl | (dsimp only; omega) | omega, by first | exact Nat.le_of_ble_eq_true rfl | (dsimp only; omega) | omega⟩ hK hE hw hA rfl f3_mo rfl hl.1 (Nat.le_of_ble_eq_true rfl) d_M_record_162 ⟨by first | exact Nat.le_of_ble_eq_true rfl | (dsimp only; omega) | omega, by first | exact Nat.le_of_ble_eq_true rfl | (dsimp only; omega) | omega⟩ rfl (fun r9 h9 H locs hp hw => ?_)
                  obtain ⟨r8, kk8, p4, R4, m4, le4, ge4, n4, im4⟩ := hp
                  subst r8
                  obtain ⟨h4, e7⟩ : ∃ x9, x9 = h9 := ⟨_, rfl⟩
                  subst e7
                  have g4_ma_1 : h4 (ma 1) = some ((22, 0), .inl (g.2.1 1, 4000, .inl f2)) := kk8 _ _ _ f3_ma_1 (by simp)
                  have g4_ma_0 : h4 (ma 0) = some ((21, 0), .inl (g.2.1 1, 4000, .inl ftp)) := kk8 _ _ _ f3_ma_0 (by simp)
                  have g4_ma_12 : h4 (ma 12) = some ((32, 0), .inl (g.2.1 1, 2000, .inl of2)) := kk8 _ _ _ f3_ma_12 (by simp)
                  have g4_ma_13 : h4 (ma 13) = some ((32, 1), .inl (g.2.1 1, 2000, .inl op2)) := kk8 _ _ _ f3_ma_13 (by simp)
                  have g4_ma_14 : h4 (ma 14) = some ((32, 2), .inl (g.2.1 1, 2000, .inl or2)) := kk8 _ _ _ f3_ma_14 (by simp)
                  have g4_ma_15 : h4 (ma 15) = some ((32, 3), .inl (g.2.1 1, 2000, .inl os2)) := kk8 _ _ _ f3_ma_15 (by simp)
                  have g4_ma_16 : h4 (ma 16) = some ((33, 0), .inl (g.2.1 2, 2000, .inr (.inl ov2))) := kk8 _ _ _ f3_ma_16 (by simp)
                  have g4_ma_17 : h4 (ma 17) = some ((34, 0), .inl (g.2.1 1, 16000, .inl ox2)) := kk8 _ _ _ f3_ma_17 (by simp)
                  have kk4 : z_K (fun y => y = 20 ∨ y = 22 ∨ y = 29 ∨ y = 30 ∨ y = 31 ∨ y = 32 ∨ y = 33 ∨ y = 34) h h4 := kk3.tr (kk8.mono (fun y z => by omega))
                  have sg_Nh4 : z_K (fun y => y = 20) h4 h4 := z_K.rf
                  have m4 : h4 mo = some ((20, 0), .inr (11, mF ma 0 0 (nI i) (nI S.1) (nI (cc S)) ffl fcl (nI R4.1) (nI (tbC R4.2 R4.1)) (nI O.length) (nI p4) (resJ (memT S (tT T) i 0 rec0)))) := m4
                  have im4 : resJ (memT S (tT T) i 0 rec0) = -1 → memT S (tT T) i 0 rec0 = .inr (p4, R4) ∧ 2 * R4.1 ≤ p4 ∧ tbR R4 ≤ p4 ∧ 0 < R4.1 := im4
                  have loop_206 : ∀ (fuel : Nat) (i6 : Int32) (hZC : z_H) (H : Heap) (locs : List Loc) (ls : Array Slot) (L206_mo : hZC mo = some ((20, 0), .inr (11, mF ma 0 0 (nI i) (nI S.1) (nI (cc S)) ffl fcl (nI R4.1) (nI (tbC R4.2 R4.1)) (nI O.length) (nI (sk (tT T) i p4)) i6))) (L206_ma_1 : hZC (ma 1) = some ((22, 0), .inl (g.2.1 1, 4000, .inl f2))) (L206_ma_0 : hZC (ma 0) = some ((21, 0), .inl (g.2.1 1, 4000, .inl ftp))) (L206_ma_12 : hZC (ma 12) = some ((32, 0), .inl (g.2.1 1, 2000, .inl of2))) (L206_ma_13 : hZC (ma 13) = some ((32, 1), .inl (g.2.1 1, 2000, .inl op2))) (L206_ma_14 : hZC (ma 14) = some ((32, 2), .inl (g.2.1 1, 2000, .inl or2))) (L206_ma_15 : hZC (ma 15) = some ((32, 3), .inl (g.2.1 1, 2000, .inl os2))) (L206_ma_16 : hZC (ma 16) = some ((33, 0), .inl (g.2.1 2, 2000, .inr (.inl ov2)))) (L206_ma_17 : hZC (ma 17) = some ((34, 0), .inl (g.2.1 1, 16000, .inl ox2))) (eW : oRecord T S R (nI i) = (i6, [], R)) (kkC : z_K (fun y => y = 20 ∨ y = 22 ∨ y = 29 ∨ y = 30 ∨ y = 31 ∨ y = 32 ∨ y = 33 ∨ y = 34) h hZC) (hNC : MNd g hZC ma R4), 0 < fuel → z_S g A s.heap hZC H locs → lv_has ls 5 [(0, .ref mo), (1, .int (nI i)), (2, .int (nI R.1)), (3, .int (nI (tbC R.2 R.1)))] → W pg l en { frames := 690, cells := 0, slots := 0, locals := 14000 } s m [.ref mo, .int (nI i)].toArray below meth cd H locs 0 0 (MQ below (z_Q g A (fun x h1 => MPt g h x (.int (oRecord T S R (nI i)).1) h1 mo (oRecord T S R (nI i)).2.1 S (oRecord T S R (nI i)).2.2 O)) [.ref mo, .int (nI i)].toArray s 0 0 A) (F0 m 206 ls []) := by
                    intro fuel
                    induction fuel with
                    | zero => intro i6 hZC H locs ls L206_mo L206_ma_1 L206_ma_0 L206_ma_12 L206_ma_13 L206_ma_14 L206_ma_15 L206_ma_16 L206_ma_17 eW kkC hNC hm; exact absurd hm (Nat.not_lt_zero _)
                    | succ fuel ih_206 =>
                      intro i6 hZC H locs ls L206_mo L206_ma_1 L206_ma_0 L206_ma_12 L206_ma_13 L206_ma_14 L206_ma_15 L206_ma_16 L206_ma_17 eW kkC hNC hm hw hl
                      obtain ⟨nf4, np4, nr4, ns4, nv4, tx4, hN4⟩ := hNC
                      refine lv_aload_n hx hb d_M_record_206 rfl (lv_at hl 0 rfl) ?_
                      refine lv_iload_n hx hb d_M_record_207 rfl (lv_at hl 2 rfl) ?_
                      refine z_putf (ty := .int) hx hb hts (z_lay i_M) t_M t_M_ok n_M hown hK hw L206_mo rfl 18 (by decide) (z_in k_789 rfl) (fun _ h9 => h9) rfl (by decide +kernel) rfl rfl (Nat.le_of_ble_eq_true rfl) d_M_record_208 (fun H locs hw => ?_)
                      obtain ⟨h5, hh5⟩ : ∃ x9, z_put hZC mo (20, 0) (.inr (11, mF ma 0 0 (nI i) (nI S.1) (nI (cc S)) ffl fcl (nI R.1) (nI (tbC R4.2 R4.1)) (nI O.length) (nI (sk (tT T) i p4)) i6)) = x9 := ⟨_, rfl⟩
                      have hw : z_S g A s.heap h5 H locs := by rw [← hh5]; exact hw
                      have f5_mo : h5 mo = some ((20, 0), .inr (11, mF ma 0 0 (nI i) (nI S.1) (nI (cc S)) ffl fcl (nI R.1) (nI (tbC R4.2 R4.1)) (nI O.length) (nI (sk (tT T) i p4)) i6)) := by rw [← hh5]; exact z_put_eq
                      have f5_ma_1 : h5 (ma 1) = some ((22, 0), .inl (g.2.1 1, 4000, .inl f2)) := by rw [← hh5]; exact z_keep L206_mo L206_ma_1 (z_t1 (by decide))
                      have f5_ma_0 : h5 (ma 0) = some ((21, 0), .inl (g.2.1 1, 4000, .inl ftp)) := by rw [← hh5]; exact z_keep L206_mo L206_ma_0 (z_t1 (by decide))
                      have f5_ma_12 : h5 (ma 12) = some ((32, 0), .inl (g.2.1 1, 2000, .inl of2)) := by rw [← hh5]; exact z_keep L206_mo L206_ma_12 (z_t1 (by decide))
                      have f5_ma_13 : h5 (ma 13) = some ((32, 1), .inl (g.2.1 1, 2000, .inl op2)) := by rw [← hh5]; exact z_keep L206_mo L206_ma_13 (z_t1 (by decide))
                      have f5_ma_14 : h5 (ma 14) = some ((32, 2), .inl (g.2.1 1, 2000, .inl or2)) := by rw [← hh5]; exact z_keep L206_mo L206_ma_14 (z_t1 (by decide))
                      have f5_ma_15 : h5 (ma 15) = some ((32, 3), .inl (g.2.1 1, 2000, .inl os2)) := by rw [← hh5]; exact z_keep L206_mo L206_ma_15 (z_t1 (by decide))
                      have f5_ma_16 : h5 (ma 16) = some ((33, 0), .inl (g.2.1 2, 2000, .inr (.inl ov2))) := by rw [← hh5]; exact z_keep L206_mo L206_ma_16 (z_t1 (by decide))
                      have f5_ma_17 : h5 (ma 17) = some ((34, 0), .inl (g.2.1 1, 16000, .inl ox2)) := by rw [← hh5]; exact z_keep L206_mo L206_ma_17 (z_t1 (by decide))
                      have f5_ma_6 : h5 (ma 6) = some ((29, 0), .inl (g.2.1 1, 2000, .inl nf4)) := by rw [← hh5]; exact z_keep L206_mo hN4.1 (z_t1 (by decide))
                      have f5_ma_7 : h5 (ma 7) = some ((29, 1), .inl (g.2.1 1, 2000, .inl np4)) := by rw [← hh5]; exact z_keep L206_mo hN4.2.1 (z_t1 (by decide))
                      have f5_ma_8 : h5 (ma 8) = some ((29, 2), .inl (g.2.1 1, 2000, .inl nr4)) := by rw [← hh5]; exact z_keep L206_mo hN4.2.2.1 (z_t1 (by decide))
                      have f5_ma_9 : h5 (ma 9) = some ((29, 3), .inl (g.2.1 1, 2000, .inl ns4)) := by rw [← hh5]; exact z_keep L206_mo hN4.2.2.2.1 (z_t1 (by decide))
                      have f5_ma_10 : h5 (ma 10) = some ((30, 0), .inl (g.2.1 2, 2000, .inr (.inl nv4))) := by rw [← hh5]; exact z_keep L206_mo hN4.2.2.2.2.1 (z_t1 (by decide))
                      have f5_ma_11 : h5 (ma 11) = some ((31, 0), .inl (g.2.1 1, 16000, .inl tx4)) := by rw [← hh5]; exact z_keep L206_mo hN4.2.2.2.2.2.1 (z_t1 (by decide))
                      have kk5 : z_K (fun y => y = 20 ∨ y = 22 ∨ y = 29 ∨ y = 30 ∨ y = 31 ∨ y = 32 ∨ y = 33 ∨ y = 34) h h5 := kkC.tr (by rw [← hh5]; exact z_K.put L206_mo (by first | decide | simp | omega))
                      refine lv_aload_n hx hb d_M_record_211 rfl (lv_at hl 0 rfl) ?_
                      refine lv_iload_n hx hb d_M_record_212 rfl (lv_at hl 3 rfl) ?_
                      refine z_putf (ty := .int) hx hb hts (z_lay i_M) t_M t_M_ok n_M hown hK hw f5_mo rfl 19 (by decide) (z_in k_790 rfl) (fun _ h9 => h9) rfl (by decide +kernel) rfl rfl (Nat.le_of_ble_eq_true rfl) d_M_record_213 (fun H locs hw => ?_)
                      obtain ⟨h6, hh6⟩ : ∃ x9, z_put h5 mo (20, 0) (.inr (11, mF ma 0 0 (nI i) (nI S.1) (nI (cc S)) ffl fcl (nI R.1) (nI (tbC R.2 R.1)) (nI O.length) (nI (sk (tT T) i p4)) i6)) = x9 := ⟨_, rfl⟩
                      have hw : z_S g A s.heap h6 H locs := by rw [← hh6]; exact hw
                      have f6_mo : h6 mo = some ((20, 0), .inr (11, mF ma 0 0 (nI i) (nI S.1) (nI (cc S)) ffl fcl (nI R.1) (nI (tbC R.2 R.1)) (nI O.length) (nI (sk (tT T) i p4)) i6)) := by rw [← hh6]; exact z_put_eq
                      have f6_ma_1 : h6 (ma 1) = some ((22, 0), .inl (g.2.1 1, 4000, .inl f2)) := by rw [← hh6]; exact z_keep f5_mo f5_ma_1 (z_t1 (by decide))
                      have f6_ma_0 : h6 (ma 0) = some ((21, 0), .inl (g.2.1 1, 4000, .inl ftp)) := by rw [← hh6]; exact z_keep f5_mo f5_ma_0 (z_t1 (by decide))
                      have f6_ma_12 : h6 (ma 12) = some ((32, 0), .inl (g.2.1 1, 2000, .inl of2)) := by rw [← hh6]; exact z_keep f5_mo f5_ma_12 (z_t1 (by decide))
                      have f6_ma_13 : h6 (ma 13) = some ((32, 1), .inl (g.2.1 1, 2000, .inl op2)) := by rw [← hh6]; exact z_keep f5_mo f5_ma_13 (z_t1 (by decide))
                      have f6_ma_14 : h6 (ma 14) = some ((32, 2), .inl (g.2.1 1, 2000, .inl or2)) := by rw [← hh6]; exact z_keep f5_mo f5_ma_14 (z_t1 (by decide))
                      have f6_ma_15 : h6 (ma 15) = some ((32, 3), .inl (g.2.1 1, 2000, .inl os2)) := by rw [← hh6]; exact z_keep f5_mo f5_ma_15 (z_t1 (by decide))
                      have f6_ma_16 : h6 (ma 16) = some ((33, 0), .inl (g.2.1 2, 2000, .inr (.inl ov2))) := by rw [← hh6]; exact z_keep f5_mo f5_ma_16 (z_t1 (by decide))
                      have f6_ma_17 : h6 (ma 17) = some ((34, 0), .inl (g.2.1 1, 16000, .inl ox2)) := by rw [← hh6]; exact z_keep f5_mo f5_ma_17 (z_t1 (by decide))
                      have f6_ma_6 : h6 (ma 6) = some ((29, 0), .inl (g.2.1 1, 2000, .inl nf4)) := by rw [← hh6]; exact z_keep f5_mo f5_ma_6 (z_t1 (by decide))
                      have f6_ma_7 : h6 (ma 7) = some ((29, 1), .inl (g.2.1 1, 2000, .inl np4)) := by rw [← hh6]; exact z_keep f5_mo f5_ma_7 (z_t1 (by decide))
                      have f6_ma_8 : h6 (ma 8) = some ((29, 2), .inl (g.2.1 1, 2000, .inl nr4)) := by rw [← hh6]; exact z_keep f5_mo f5_ma_8 (z_t1 (by decide))
                      have f6_ma_9 : h6 (ma 9) = some ((29, 3), .inl (g.2.1 1, 2000, .inl ns4)) := by rw [← hh6]; exact z_keep f5_mo f5_ma_9 (z_t1 (by decide))
                      have f6_ma_10 : h6 (ma 10) = some ((30, 0), .inl (g.2.1 2, 2000, .inr (.inl nv4))) := by rw [← hh6]; exact z_keep f5_mo f5_ma_10 (z_t1 (by decide))
                      have f6_ma_11 : h6 (ma 11) = some ((31, 0), .inl (g.2.1 1, 16000, .inl tx4)) := by rw [← hh6]; exact z_keep f5_mo f5_ma_11 (z_t1 (by decide))
                      have kk6 : z_K (fun y => y = 20 ∨ y = 22 ∨ y = 29 ∨ y = 30 ∨ y = 31 ∨ y = 32 ∨ y = 33 ∨ y = 34) h h6 := kk5.tr (by rw [← hh6]; exact z_K.put f5_mo (by first | decide | simp | omega))
                      refine lv_iconst (v := 0) hx hb d_M_record_216 (by decide) ?_
                      refine lv_istore (lv' := [(4, .int 0), (0, .ref mo), (1, .int (nI i)), (2, .int (nI R.1)), (3, .int (nI (tbC R.2 R.1)))]) hx hb d_M_record_217 hl (by decide) rfl (fun ls hl => ?_)
                      have loop_219 : ∀ (fuel : Nat) (k : Nat) (nf5 : Nat → Int32) (np5 : Nat → Int32) (nr5 : Nat → Int32) (ns5 : Nat → Int32) (nv5 : Nat → Int64) (hD9 : z_H) (H : Heap) (locs : List Loc) (ls : Array Slot) (L219_mo : hD9 mo = some ((20, 0), .inr (11, mF ma 0 0 (nI i) (nI S.1) (nI (cc S)) ffl fcl (nI R.1) (nI (tbC R.2 R.1)) (nI O.length) (nI (sk (tT T) i p4)) i6))) (L219_ma_1 : hD9 (ma 1) = some ((22, 0), .inl (g.2.1 1, 4000, .inl f2))) (L219_ma_0 : hD9 (ma 0) = some ((21, 0), .inl (g.2.1 1, 4000, .inl ftp))) (L219_ma_12 : hD9 (ma 12) = some ((32, 0), .inl (g.2.1 1, 2000, .inl of2))) (L219_ma_13 : hD9 (ma 13) = some ((32, 1), .inl (g.2.1 1, 2000, .inl op2))) (L219_ma_14 : hD9 (ma 14) = some ((32, 2), .inl (g.2.1 1, 2000, .inl or2))) (L219_ma_15 : hD9 (ma 15) = some ((32, 3), .inl (g.2.1 1, 2000, .inl os2))) (L219_ma_16 : hD9 (ma 16) = some ((33, 0), .inl (g.2.1 2, 2000, .inr (.inl ov2)))) (L219_ma_17 : hD9 (ma 17) = some ((34, 0), .inl (g.2.1 1, 16000, .inl ox2))) (L219_ma_6 : hD9 (ma 6) = some ((29, 0), .inl (g.2.1 1, 2000, .inl nf5))) (L219_ma_7 : hD9 (ma 7) = some ((29, 1), .inl (g.2.1 1, 2000, .inl np5))) (L219_ma_8 : hD9 (ma 8) = some ((29, 2), .inl (g.2.1 1, 2000, .inl nr5))) (L219_ma_9 : hD9 (ma 9) = some ((29, 3), .inl (g.2.1 1, 2000, .inl ns5))) (L219_ma_10 : hD9 (ma 10) = some ((30, 0), .inl (g.2.1 2, 2000, .inr (.inl nv5)))) (L219_ma_11 : hD9 (ma 11) = some ((31, 0), .inl (g.2.1 1, 16000, .inl tx4))) (hk9 : k ≤ R.1) (hrs : ∀ j, j < k → nf5 j = nf j ∧ np5 j = np j ∧ nr5 j = nr j ∧ ns5 j = ns j ∧ nv5 j = nv j) (kkD : z_K (fun y => y = 20 ∨ y = 22 ∨ y = 29 ∨ y = 30 ∨ y = 31 ∨ y = 32 ∨ y = 33 ∨ y = 34) h hD9), (R.1 - k) < fuel → z_S g A s.heap hD9 H locs → lv_has ls 5 [(0, .ref mo), (1, .int (nI i)), (2, .int (nI R.1)), (3, .int (nI (tbC R.2 R.1))), (4, .int (nI k))] → W pg l en { frames := 690, cells := 0, slots := 0, locals := 14000 } s m [.ref mo, .int (nI i)].toArray below meth cd H locs 0 0 (MQ below (z_Q g A (fun x h1 => MPt g h x (.int (oRecord T S R (nI i)).1) h1 mo (oRecord T S R (nI i)).2.1 S (oRecord T S R (nI i)).2.2 O)) [.ref mo, .int (nI i)].toArray s 0 0 A) (F0 m 219 ls []) := by
                        intro fuel
                        induction fuel with
                        | zero => intro k nf5 np5 nr5 ns5 nv5 hD9 H locs ls L219_mo L219_ma_1 L219_ma_0 L219_ma_12 L219_ma_13 L219_ma_14 L219_ma_15 L219_ma_16 L219_ma_17 L219_ma_6 L219_ma_7 L219_ma_8 L219_ma_9 L219_ma_10 L219_ma_11 hk9 hrs kkD hm; exact absurd hm (Nat.not_lt_zero _)
                        | succ fuel ih_219 =>
                          intro k nf5 np5 nr5 ns5 nv5 hD9 H locs ls L219_mo L219_ma_1 L219_ma_0 L219_ma_12 L219_ma_13 L219_ma_14 L219_ma_15 L219_ma_16 L219_ma_17 L219_ma_6 L219_ma_7 L219_ma_8 L219_ma_9 L219_ma_10 L219_ma_11 hk9 hrs kkD hm hw hl
                          refine lv_iload hx hb d_M_record_219 (lv_at hl 4 rfl) ?_
                          refine lv_aload_n hx hb d_M_record_221 rfl (lv_at hl 0 rfl) ?_
                          refine z_get hx hb hts (z_lay i_M) hown hK hw L219_mo rfl 18 (by decide) (z_in k_789 rfl) (fun _ h9 => h9) rfl d_M_record_222 ?_
                          refine lv_icmp_ge (tgt := 304) hx hb d_M_record_225 (by decide) (fun c_225 => ?_) (fun c_225 => ?_)
                          · -- 225: True
                            have c_225 : R.1 ≤ k := (nI_leI (a := R.1) (b := k) (by omega) (by omega)).mp c_225
                            refine lv_iconst (v := 0) hx hb d_M_record_304 (by decide) ?_
                            refine lv_istore (lv' := [(4, .int 0), (0, .ref mo), (1, .int (nI i)), (2, .int (nI R.1)), (3, .int (nI (tbC R.2 R.1)))]) hx hb d_M_record_305 hl (by decide) rfl (fun ls hl => ?_)
                            have loop_307 : ∀ (fuel : Nat) (k2 : Nat) (tx5 : Nat → Int32) (hE9 : z_H) (H : Heap) (locs : List Loc) (ls : Array Slot) (L307_mo : hE9 mo = some ((20, 0), .inr (11, mF ma 0 0 (nI i) (nI S.1) (nI (cc S)) ffl fcl (nI R.1) (nI (tbC R.2 R.1)) (nI O.length) (nI (sk (tT T) i p4)) i6))) (L307_ma_1 : hE9 (ma 1) = some ((22, 0), .inl (g.2.1 1, 4000, .inl f2))) (L307_ma_0 : hE9 (ma 0) = some ((21, 0), .inl (g.2.1 1, 4000, .inl ftp))) (L307_ma_12 : hE9 (ma 12) = some ((32, 0), .inl (g.2.1 1, 2000, .inl of2))) (L307_ma_13 : hE9 (ma 13) = some ((32, 1), .inl (g.2.1 1, 2000, .inl op2))) (L307_ma_14 : hE9 (ma 14) = some ((32, 2), .inl (g.2.1 1, 2000, .inl or2))) (L307_ma_15 : hE9 (ma 15) = some ((32, 3), .inl (g.2.1 1, 2000, .inl os2))) (L307_ma_16 : hE9 (ma 16) = some ((33, 0), .inl (g.2.1 2, 2000, .inr (.inl ov2)))) (L307_ma_17 : hE9 (ma 17) = some ((34, 0), .inl (g.2.1 1, 16000, .inl ox2))) (L307_ma_6 : hE9 (ma 6) = some ((29, 0), .inl (g.2.1 1, 2000, .inl nf5))) (L307_ma_7 : hE9 (ma 7) = some ((29, 1), .inl (g.2.1 1, 2000, .inl np5))) (L307_ma_8 : hE9 (ma 8) = some ((29, 2), .inl (g.2.1 1, 2000, .inl nr5))) (L307_ma_9 : hE9 (ma 9) = some ((29, 3), .inl (g.2.1 1, 2000, .inl ns5))) (L307_ma_10 : hE9 (ma 10) = some ((30, 0), .inl (g.2.1 2, 2000, .inr (.inl nv5)))) (L307_ma_11 : hE9 (ma 11) = some ((31, 0), .inl (g.2.1 1, 16000, .inl tx5))) (hk2 : k2 ≤ tbC R.2 R.1) (hrx : ∀ j, j < k2 → tx5 j = tx j) (kkE : z_K (fun y => y = 20 ∨ y = 22 ∨ y = 29 ∨ y = 30 ∨ y = 31 ∨ y = 32 ∨ y = 33 ∨ y = 34) h hE9), (tbC R.2 R.1 - k2) < fuel → z_S g A s.heap hE9 H locs → lv_has ls 5 [(0, .ref mo), (1, .int (nI i)), (2, .int (nI R.1)), (3, .int (nI (tbC R.2 R.1))), (4, .int (nI k2))] → W pg l en { frames := 690, cells := 0, slots := 0, locals := 14000 } s m [.ref mo, .int (nI i)].toArray below meth cd H locs 0 0 (MQ below (z_Q g A (fun x h1 => MPt g h x (.int (oRecord T S R (nI i)).1) h1 mo (oRecord T S R (nI i)).2.1 S (oRecord T S R (nI i)).2.2 O)) [.ref mo, .int (nI i)].toArray s 0 0 A) (F0 m 307 ls []) := by
                              intro fuel
                              induction fuel with
                              | zero => intro k2 tx5 hE9 H locs ls L307_mo L307_ma_1 L307_ma_0 L307_ma_12 L307_ma_13 L307_ma_14 L307_ma_15 L307_ma_16 L307_ma_17 L307_ma_6 L307_ma_7 L307_ma_8 L307_ma_9 L307_ma_10 L307_ma_11 hk2 hrx kkE hm; exact absurd hm (Nat.not_lt_zero _)
                              | succ fuel ih_307 =>
                                intro k2 tx5 hE9 H locs ls L307_mo L307_ma_1 L307_ma_0 L307_ma_12 L307_ma_13 L307_ma_14 L307_ma_15 L307_ma_16 L307_ma_17 L307_ma_6 L307_ma_7 L307_ma_8 L307_ma_9 L307_ma_10 L307_ma_11 hk2 hrx kkE hm hw hl
                                refine lv_iload hx hb d_M_record_307 (lv_at hl 4 rfl) ?_
                                refine lv_aload_n hx hb d_M_record_309 rfl (lv_at hl 0 rfl) ?_
                                refine z_get hx hb hts (z_lay i_M) hown hK hw L307_mo rfl 19 (by decide) (z_in k_790 rfl) (fun _ h9 => h9) rfl d_M_record_310 ?_
                                refine lv_icmp_ge (tgt := 336) hx hb d_M_record_313 (by decide) (fun c_313 => ?_) (fun c_313 => ?_)
                                · -- 313: True
                                  have c_313 : (tbC R.2 R.1) ≤ k2 := (nI_leI (a := tbC R.2 R.1) (b := k2) (by omega) (by omega)).mp c_313
                                  refine lv_aload_n hx hb d_M_record_336 rfl (lv_at hl 0 rfl) ?_
                                  refine z_get hx hb hts (z_lay i_M) hown hK hw L307_mo rfl 30 (by decide) (z_in k_801 rfl) (fun _ h9 => h9) rfl d_M_record_337 ?_
                                  exact z_iret hx hb hr hlocks hw (by refine ⟨by rw [eW], ?_, kkE.mono (fun y z => by unfold KMr; omega)⟩; rw [eW]; exact ⟨ma, _, _, _, _, _, _, L307_mo, ⟨ftp, L307_ma_0, Nat.zero_le _, fun k hk => absurd hk (Nat.not_lt_zero _)⟩, ⟨_, L307_ma_1⟩, ⟨_, _, _, hSc.k kkE (by omega) (by omega) (by omega)⟩, hSf.k kkE (by omega) (by omega) (by omega), ⟨_, _, _, _, _, _, MNp.same hNd L307_ma_6 L307_ma_7 L307_ma_8 L307_ma_9 L307_ma_10 L307_ma_11 (fun j hj => hrs j (by have hj : j < R.1 := hj; omega)) (fun j hj => hrx j (by have hj : j < tbC R.2 R.1 := hj; omega))⟩, ⟨_, _, _, _, _, _, L307_ma_12, L307_ma_13, L307_ma_14, L307_ma_15, L307_ma_16, L307_ma_17⟩, hOu.k kkE (by omega)⟩) (by decide) (by decide) d_M_record_340
                                · -- 313: False
                                  have c_313 : ¬ ((tbC R.2 R.1) ≤ k2) := fun z => c_313 ((nI_leI (a := tbC R.2 R.1) (b := k2) (by omega) (by omega)).mpr z)
                                  refine lv_aload_n hx hb d_M_record_316 rfl (lv_at hl 0 rfl) ?_
                                  refine z_get hx hb hts (z_lay i_M) hown hK hw L307_mo rfl 20 (by decide) (z_in k_791 rfl) (fun _ h9 => h9) rfl d_M_record_317 ?_
                                  refine lv_iload hx hb d_M_record_320 (lv_at hl 4 rfl) ?_
                                  refine lv_aload_n hx hb d_M_record_322 rfl (lv_at hl 0 rfl) ?_
                                  refine z_get hx hb hts (z_lay i_M) hown hK hw L307_mo rfl 26 (by decide) (z_in k_797 rfl) (fun _ h9 => h9) rfl d_M_record_323 ?_
                                  refine lv_iload hx hb d_M_record_326 (lv_at hl 4 rfl) ?_
                                  refine z_iald hx hb hK hw L307_ma_17 1 rfl (vp_in_nI (by omega) (by omega)) d_M_record_328 ?_
                                  refine z_topi (y := ox2 k2) (by rw [nI_clamp (by omega)]) ?_
                                  refine z_iast hx hb hK hw L307_ma_11 1 rfl (vp_in_nI (by omega) (by omega)) d_M_record_329 (fun H locs hw => ?_)
                                  rw [nI_clamp (by omega)] at hw
                                  obtain ⟨h7, hh7⟩ : ∃ x9, z_put hE9 (ma 11) (31, 0) (.inl (g.2.1 1, 16000, .inl (upd tx5 k2 (ox2 k2)))) = x9 := ⟨_, rfl⟩
                                  have hw : z_S g A s.heap h7 H locs := by rw [← hh7]; exact hw
                                  have f7_mo : h7 mo = some ((20, 0), .inr (11, mF ma 0 0 (nI i) (nI S.1) (nI (cc S)) ffl fcl (nI R.1) (nI (tbC R.2 R.1)) (nI O.length) (nI (sk (tT T) i p4)) i6)) := by rw [← hh7]; exact z_keep L307_ma_11 L307_mo (z_t1 (by decide))
                                  have f7_ma_1 : h7 (ma 1) = some ((22, 0), .inl (g.2.1 1, 4000, .inl f2)) := by rw [← hh7]; exact z_keep L307_ma_11 L307_ma_1 (z_t1 (by decide))
                                  have f7_ma_0 : h7 (ma 0) = some ((21, 0), .inl (g.2.1 1, 4000, .inl ftp)) := by rw [← hh7]; exact z_keep L307_ma_11 L307_ma_0 (z_t1 (by decide))
                                  have f7_ma_12 : h7 (ma 12) = some ((32, 0), .inl (g.2.1 1, 2000, .inl of2)) := by rw [← hh7]; exact z_keep L307_ma_11 L307_ma_12 (z_t1 (by decide))
                                  have f7_ma_13 : h7 (ma 13) = some ((32, 1), .inl (g.2.1 1, 2000, .inl op2)) := by rw [← hh7]; exact z_keep L307_ma_11 L307_ma_13 (z_t1 (by decide))
                                  have f7_ma_14 : h7 (ma 14) = some ((32, 2), .inl (g.2.1 1, 2000, .inl or2)) := by rw [← hh7]; exact z_keep L307_ma_11 L307_ma_14 (z_t1 (by decide))
                                  have f7_ma_15 : h7 (ma 15) = some ((32, 3), .inl (g.2.1 1, 2000, .inl os2)) := by rw [← hh7]; exact z_keep L307_ma_11 L307_ma_15 (z_t1 (by decide))
                                  have f7_ma_16 : h7 (ma 16) = some ((33, 0), .inl (g.2.1 2, 2000, .inr (.inl ov2))) := by rw [← hh7]; exact z_keep L307_ma_11 L307_ma_16 (z_t1 (by decide))
                                  have f7_ma_17 : h7 (ma 17) = some ((34, 0), .inl (g.2.1 1, 16000, .inl ox2)) := by rw [← hh7]; exact z_keep L307_ma_11 L307_ma_17 (z_t1 (by decide))
                                  have f7_ma_6 : h7 (ma 6) = some ((29, 0), .inl (g.2.1 1, 2000, .inl nf5)) := by rw [← hh7]; exact z_keep L307_ma_11 L307_ma_6 (z_t1 (by decide))
                                  have f7_ma_7 : h7 (ma 7) = some ((29, 1), .inl (g.2.1 1, 2000, .inl np5)) := by rw [← hh7]; exact z_keep L307_ma_11 L307_ma_7 (z_t1 (by decide))
                                  have f7_ma_8 : h7 (ma 8) = some ((29, 2), .inl (g.2.1 1, 2000, .inl nr5)) := by rw [← hh7]; exact z_keep L307_ma_11 L307_ma_8 (z_t1 (by decide))
                                  have f7_ma_9 : h7 (ma 9) = some ((29, 3), .inl (g.2.1 1, 2000, .inl ns5)) := by rw [← hh7]; exact z_keep L307_ma_11 L307_ma_9 (z_t1 (by decide))
                                  have f7_ma_10 : h7 (ma 10) = some ((30, 0), .inl (g.2.1 2, 2000, .inr (.inl nv5))) := by rw [← hh7]; exact z_keep L307_ma_11 L307_ma_10 (z_t1 (by decide))
                                  have f7_ma_11 : h7 (ma 11) = some ((31, 0), .inl (g.2.1 1, 16000, .inl (upd tx5 k2 (ox2 k2)))) := by rw [← hh7]; exact z_put_eq
                                  have kk7 : z_K (fun y => y = 20 ∨ y = 22 ∨ y = 29 ∨ y = 30 ∨ y = 31 ∨ y = 32 ∨ y = 33 ∨ y = 34) h h7 := kkE.tr (by rw [← hh7]; exact z_K.put L307_ma_11 (by first | decide | simp | omega))
                                  refine lv_iinc (v := nI (k2 + 1)) (lv' := [(4, .int (nI (k2 + 1))), (0, .ref mo), (1, .int (nI i)), (2, .int (nI R.1)), (3, .int (nI (tbC R.2 R.1)))]) hx hb d_M_record_330 hl (k := 4) rfl (nI_1 k2) (by decide) rfl (fun ls hl => ?_)
                                  refine lv_goto (tgt := 307) hx hb d_M_record_333 (by decide) ?_
                                  refine ih_307 (k2 + 1) (upd tx5 k2 (ox2 k2)) h7 _ _ _ f7_mo f7_ma_1 f7_ma_0 f7_ma_12 f7_ma_13 f7_ma_14 f7_ma_15 f7_ma_16 f7_ma_17 f7_ma_6 f7_ma_7 f7_ma_8 f7_ma_9 f7_ma_10 f7_ma_11 (by omega) (fun j hj => (Nat.lt_succ_iff_lt_or_eq.mp hj).elim (fun z => by rw [pk_un (by omega)]; exact hrx j z) (fun z => by rw [z, pk_us]; exact hsx k2 (by omega))) kk7 ?_ hw (lv_sub hl [1, 2, 3, 4, 0] rfl)
                                  omega
                            exact loop_307 (tbC R.2 R.1 - 0 + 1) 0 tx4 hD9 _ _ _ L219_mo L219_ma_1 L219_ma_0 L219_ma_12 L219_ma_13 L219_ma_14 L219_ma_15 L219_ma_16 L219_ma_17 L219_ma_6 L219_ma_7 L219_ma_8 L219_ma_9 L219_ma_10 L219_ma_11 (Nat.zero_le _) (fun j hj => absurd hj (Nat.not_lt_zero _)) kkD (by omega) hw (lv_sub hl [1, 2, 3, 4, 0] rfl)
                          · -- 225: False
                            have c_225 : ¬ (R.1 ≤ k) := fun z => c_225 ((nI_leI (a := R.1) (b := k) (by omega) (by omega)).mpr z)
                            refine lv_aload_n hx hb d_M_record_228 rfl (lv_at hl 0 rfl) ?_
                            refine z_get hx hb hts (z_lay i_M) hown hK hw L219_mo rfl 13 (by decide) (z_in k_784 rfl) (fun _ h9 => h9) rfl d_M_record_229 ?_
                            refine lv_iload hx hb d_M_record_232 (lv_at hl 4 rfl) ?_
                            refine lv_aload_n hx hb d_M_record_234 rfl (lv_at hl 0 rfl) ?_
                            refine z_get hx hb hts (z_lay i_M) hown hK hw L219_mo rfl 21 (by decide) (z_in k_792 rfl) (fun _ h9 => h9) rfl d_M_record_235 ?_
                            refine lv_iload hx hb d_M_record_238 (lv_at hl 4 rfl) ?_
                            refine z_iald hx hb hK hw L219_ma_12 1 rfl (vp_in_nI (by omega) (by omega)) d_M_record_240 ?_
                            refine z_topi (y := of2 k) (by rw [nI_clamp (by omega)]) ?_
                            refine z_iast hx hb hK hw L219_ma_6 1 rfl (vp_in_nI (by omega) (by omega)) d_M_record_241 (fun H locs hw => ?_)
                            rw [nI_clamp (by omega)] at hw
                            obtain ⟨h8, hh8⟩ : ∃ x9, z_put hD9 (ma 6) (29, 0) (.inl (g.2.1 1, 2000, .inl (upd nf5 k (of2 k)))) = x9 := ⟨_, rfl⟩
                            have hw : z_S g A s.heap h8 H locs := by rw [← hh8]; exact hw
                            have f8_mo : h8 mo = some ((20, 0), .inr (11, mF ma 0 0 (nI i) (nI S.1) (nI (cc S)) ffl fcl (nI R.1) (nI (tbC R.2 R.1)) (nI O.length) (nI (sk (tT T) i p4)) i6)) := by rw [← hh8]; exact z_keep L219_ma_6 L219_mo (z_t1 (by decide))
                            have f8_ma_1 : h8 (ma 1) = some ((22, 0), .inl (g.2.1 1, 4000, .inl f2)) := by rw [← hh8]; exact z_keep L219_ma_6 L219_ma_1 (z_t1 (by decide))
                            have f8_ma_0 : h8 (ma 0) = some ((21, 0), .inl (g.2.1 1, 4000, .inl ftp)) := by rw [← hh8]; exact z_keep L219_ma_6 L219_ma_0 (z_t1 (by decide))
                            have f8_ma_12 : h8 (ma 12) = some ((32, 0), .inl (g.2.1 1, 2000, .inl of2)) := by rw [← hh8]; exact z_keep L219_ma_6 L219_ma_12 (z_t1 (by decide))
                            have f8_ma_13 : h8 (ma 13) = some ((32, 1), .inl (g.2.1 1, 2000, .inl op2)) := by rw [← hh8]; exact z_keep L219_ma_6 L219_ma_13 (z_t1 (by decide))
                            have f8_ma_14 : h8 (ma 14) = some ((32, 2), .inl (g.2.1 1, 2000, .inl or2)) := by rw [← hh8]; exact z_keep L219_ma_6 L219_ma_14 (z_t1 (by decide))
                            have f8_ma_15 : h8 (ma 15) = some ((32, 3), .inl (g.2.1 1, 2000, .inl os2)) := by rw [← hh8]; exact z_keep L219_ma_6 L219_ma_15 (z_t1 (by decide))
                            have f8_ma_16 : h8 (ma 16) = some ((33, 0), .inl (g.2.1 2, 2000, .inr (.inl ov2))) := by rw [← hh8]; exact z_keep L219_ma_6 L219_ma_16 (z_t1 (by decide))
                            have f8_ma_17 : h8 (ma 17) = some ((34, 0), .inl (g.2.1 1, 16000, .inl ox2)) := by rw [← hh8]; exact z_keep L219_ma_6 L219_ma_17 (z_t1 (by decide))
                            have f8_ma_6 : h8 (ma 6) = some ((29, 0), .inl (g.2.1 1, 2000, .inl (upd nf5 k (of2 k)))) := by rw [← hh8]; exact z_put_eq
                            have f8_ma_7 : h8 (ma 7) = some ((29, 1), .inl (g.2.1 1, 2000, .inl np5)) := by rw [← hh8]; exact z_keep L219_ma_6 L219_ma_7 (by decide)
                            have f8_ma_8 : h8 (ma 8) = some ((29, 2), .inl (g.2.1 1, 2000, .inl nr5)) := by rw [← hh8]; exact z_keep L219_ma_6 L219_ma_8 (by decide)
                            have f8_ma_9 : h8 (ma 9) = some ((29, 3), .inl (g.2.1 1, 2000, .inl ns5)) := by rw [← hh8]; exact z_keep L219_ma_6 L219_ma_9 (by decide)
                            have f8_ma_10 : h8 (ma 10) = some ((30, 0), .inl (g.2.1 2, 2000, .inr (.inl nv5))) := by rw [← hh8]; exact z_keep L219_ma_6 L219_ma_10 (z_t1 (by decide))
                            have f8_ma_11 : h8 (ma 11) = some ((31, 0), .inl (g.2.1 1, 16000, .inl tx4)) := by rw [← hh8]; exact z_keep L219_ma_6 L219_ma_11 (z_t1 (by decide))
                            have kk8 : z_K (fun y => y = 20 ∨ y = 22 ∨ y = 29 ∨ y = 30 ∨ y = 31 ∨ y = 32 ∨ y = 33 ∨ y = 34) h h8 := kkD.tr (by rw [← hh8]; exact z_K.put L219_ma_6 (by first | decide | simp | omega))
                            refine lv_aload_n hx hb d_M_record_242 rfl (lv_at hl 0 rfl) ?_
                            refine z_get hx hb hts (z_lay i_M) hown hK hw f8_mo rfl 14 (by decide) (z_in k_785 rfl) (fun _ h9 => h9) rfl d_M_record_243 ?_
                            refine lv_iload hx hb d_M_record_246 (lv_at hl 4 rfl) ?_
                            refine lv_aload_n hx hb d_M_record_248 rfl (lv_at hl 0 rfl) ?_
                            refine z_get hx hb hts (z_lay i_M) hown hK hw f8_mo rfl 22 (by decide) (z_in k_793 rfl) (fun _ h9 => h9) rfl d_M_record_249 ?_
                            refine lv_iload hx hb d_M_record_252 (lv_at hl 4 rfl) ?_
                            refine z_iald hx hb hK hw f8_ma_13 1 rfl (vp_in_nI (by omega) (by omega)) d_M_record_254 ?_
                            refine z_topi (y := op2 k) (by rw [nI_clamp (by omega)]) ?_
                            refine z_iast hx hb hK hw f8_ma_7 1 rfl (vp_in_nI (by omega) (by omega)) d_M_record_255 (fun H locs hw => ?_)
                            rw [nI_clamp (by omega)] at hw
                            obtain ⟨h9, hh9⟩ : ∃ x9, z_put h8 (ma 7) (29, 1) (.inl (g.2.1 1, 2000, .inl (upd np5 k (op2 k)))) = x9 := ⟨_, rfl⟩
                            have hw : z_S g A s.heap h9 H locs := by rw [← hh9]; exact hw
                            have f9_mo : h9 mo = some ((20, 0), .inr (11, mF ma 0 0 (nI i) (nI S.1) (nI (cc S)) ffl fcl (nI R.1) (nI (tbC R.2 R.1)) (nI O.length) (nI (sk (tT T) i p4)) i6)) := by rw [← hh9]; exact z_keep f8_ma_7 f8_mo (z_t1 (by decide))
                            have f9_ma_1 : h9 (ma 1) = some ((22, 0), .inl (g.2.1 1, 4000, .inl f2)) := by rw [← hh9]; exact z_keep f8_ma_7 f8_ma_1 (z_t1 (by decide))
                            have f9_ma_0 : h9 (ma 0) = some ((21, 0), .inl (g.2.1 1, 4000, .inl ftp)) := by rw [← hh9]; exact z_keep f8_ma_7 f8_ma_0 (z_t1 (by decide))
                            have f9_ma_12 : h9 (ma 12) = some ((32, 0), .inl (g.2.1 1, 2000, .inl of2)) := by rw [← hh9]; exact z_keep f8_ma_7 f8_ma_12 (z_t1 (by decide))
                            have f9_ma_13 : h9 (ma 13) = some ((32, 1), .inl (g.2.1 1, 2000, .inl op2)) := by rw [← hh9]; exact z_keep f8_ma_7 f8_ma_13 (z_t1 (by decide))
                            have f9_ma_14 : h9 (ma 14) = some ((32, 2), .inl (g.2.1 1, 2000, .inl or2)) := by rw [← hh9]; exact z_keep f8_ma_7 f8_ma_14 (z_t1 (by decide))
                            have f9_ma_15 : h9 (ma 15) = some ((32, 3), .inl (g.2.1 1, 2000, .inl os2)) := by rw [← hh9]; exact z_keep f8_ma_7 f8_ma_15 (z_t1 (by decide))
                            have f9_ma_16 : h9 (ma 16) = some ((33, 0), .inl (g.2.1 2, 2000, .inr (.inl ov2))) := by rw [← hh9]; exact z_keep f8_ma_7 f8_ma_16 (z_t1 (by decide))
                            have f9_ma_17 : h9 (ma 17) = some ((34, 0), .inl (g.2.1 1, 16000, .inl ox2)) := by rw [← hh9]; exact z_keep f8_ma_7 f8_ma_17 (z_t1 (by decide))
                            have f9_ma_6 : h9 (ma 6) = some ((29, 0), .inl (g.2.1 1, 2000, .inl (upd nf5 k (of2 k)))) := by rw [← hh9]; exact z_keep f8_ma_7 f8_ma_6 (by decide)
                            have f9_ma_7 : h9 (ma 7) = some ((29, 1), .inl (g.2.1 1, 2000, .inl (upd np5 k (op2 k)))) := by rw [← hh9]; exact z_put_eq
                            have f9_ma_8 : h9 (ma 8) = some ((29, 2), .inl (g.2.1 1, 2000, .inl nr5)) := by rw [← hh9]; exact z_keep f8_ma_7 f8_ma_8 (by decide)
                            have f9_ma_9 : h9 (ma 9) = some ((29, 3), .inl (g.2.1 1, 2000, .inl ns5)) := by rw [← hh9]; exact z_keep f8_ma_7 f8_ma_9 (by decide)
                            have f9_ma_10 : h9 (ma 10) = some ((30, 0), .inl (g.2.1 2, 2000, .inr (.inl nv5))) := by rw [← hh9]; exact z_keep f8_ma_7 f8_ma_10 (z_t1 (by decide))
                            have f9_ma_11 : h9 (ma 11) = some ((31, 0), .inl (g.2.1 1, 16000, .inl tx4)) := by rw [← hh9]; exact z_keep f8_ma_7 f8_ma_11 (z_t1 (by decide))
                            have kk9 : z_K (fun y => y = 20 ∨ y = 22 ∨ y = 29 ∨ y = 30 ∨ y = 31 ∨ y = 32 ∨ y = 33 ∨ y = 34) h h9 := kk8.tr (by rw [← hh9]; exact z_K.put f8_ma_7 (by first | decide | simp | omega))
                            refine lv_aload_n hx hb d_M_record_256 rfl (lv_at hl 0 rfl) ?_
                            refine z_get hx hb hts (z_lay i_M) hown hK hw f9_mo rfl 15 (by decide) (z_in k_786 rfl) (fun _ h9 => h9) rfl d_M_record_257 ?_
                            refine lv_iload hx hb d_M_record_260 (lv_at hl 4 rfl) ?_
                            refine lv_aload_n hx hb d_M_record_262 rfl (lv_at hl 0 rfl) ?_
                            refine z_get hx hb hts (z_lay i_M) hown hK hw f9_mo rfl 23 (by decide) (z_in k_794 rfl) (fun _ h9 => h9) rfl d_M_record_263 ?_
                            refine lv_iload hx hb d_M_record_266 (lv_at hl 4 rfl) ?_
                            refine z_iald hx hb hK hw f9_ma_14 1 rfl (vp_in_nI (by omega) (by omega)) d_M_record_268 ?_
                            refine z_topi (y := or2 k) (by rw [nI_clamp (by omega)]) ?_
                            refine z_iast hx hb hK hw f9_ma_8 1 rfl (vp_in_nI (by omega) (by omega)) d_M_record_269 (fun H locs hw => ?_)
                            rw [nI_clamp (by omega)] at hw
                            obtain ⟨h10, hh10⟩ : ∃ x9, z_put h9 (ma 8) (29, 2) (.inl (g.2.1 1, 2000, .inl (upd nr5 k (or2 k)))) = x9 := ⟨_, rfl⟩
                            have hw : z_S g A s.heap h10 H locs := by rw [← hh10]; exact hw
                            have f10_mo : h10 mo = some ((20, 0), .inr (11, mF ma 0 0 (nI i) (nI S.1) (nI (cc S)) ffl fcl (nI R.1) (nI (tbC R.2 R.1)) (nI O.length) (nI (sk (tT T) i p4)) i6)) := by rw [← hh10]; exact z_keep f9_ma_8 f9_mo (z_t1 (by decide))
                            have f10_ma_1 : h10 (ma 1) = some ((22, 0), .inl (g.2.1 1, 4000, .inl f2)) := by rw [← hh10]; exact z_keep f9_ma_8 f9_ma_1 (z_t1 (by decide))
                            have f10_ma_0 : h10 (ma 0) = some ((21, 0), .inl (g.2.1 1, 4000, .inl ftp)) := by rw [← hh10]; exact z_keep f9_ma_8 f9_ma_0 (z_t1 (by decide))
                            have f10_ma_12 : h10 (ma 12) = some ((32, 0), .inl (g.2.1 1, 2000, .inl of2)) := by rw [← hh10]; exact z_keep f9_ma_8 f9_ma_12 (z_t1 (by decide))
                            have f10_ma_13 : h10 (ma 13) = some ((32, 1), .inl (g.2.1 1, 2000, .inl op2)) := by rw [← hh10]; exact z_keep f9_ma_8 f9_ma_13 (z_t1 (by decide))
                            have f10_ma_14 : h10 (ma 14) = some ((32, 2), .inl (g.2.1 1, 2000, .inl or2)) := by rw [← hh10]; exact z_keep f9_ma_8 f9_ma_14 (z_t1 (by decide))
                            have f10_ma_15 : h10 (ma 15) = some ((32, 3), .inl (g.2.1 1, 2000, .inl os2)) := by rw [← hh10]; exact z_keep f9_ma_8 f9_ma_15 (z_t1 (by decide))
                            have f10_ma_16 : h10 (ma 16) = some ((33, 0), .inl (g.2.1 2, 2000, .inr (.inl ov2))) := by rw [← hh10]; exact z_keep f9_ma_8 f9_ma_16 (z_t1 (by decide))
                            have f10_ma_17 : h10 (ma 17) = some ((34, 0), .inl (g.2.1 1, 16000, .inl ox2)) := by rw [← hh10]; exact z_keep f9_ma_8 f9_ma_17 (z_t1 (by decide))
                            have f10_ma_6 : h10 (ma 6) = some ((29, 0), .inl (g.2.1 1, 2000, .inl (upd nf5 k (of2 k)))) := by rw [← hh10]; exact z_keep f9_ma_8 f9_ma_6 (by decide)
                            have f10_ma_7 : h10 (ma 7) = some ((29, 1), .inl (g.2.1 1, 2000, .inl (upd np5 k (op2 k)))) := by rw [← hh10]; exact z_keep f9_ma_8 f9_ma_7 (by decide)
                            have f10_ma_8 : h10 (ma 8) = some ((29, 2), .inl (g.2.1 1, 2000, .inl (upd nr5 k (or2 k)))) := by rw [← hh10]; exact z_put_eq
                            have f10_ma_9 : h10 (ma 9) = some ((29, 3), .inl (g.2.1 1, 2000, .inl ns5)) := by rw [← hh10]; exact z_keep f9_ma_8 f9_ma_9 (by decide)
                            have f10_ma_10 : h10 (ma 10) = some ((30, 0), .inl (g.2.1 2, 2000, .inr (.inl nv5))) := by rw [← hh10]; exact z_keep f9_ma_8 f9_ma_10 (z_t1 (by decide))
                            have f10_ma_11 : h10 (ma 11) = some ((31, 0), .inl (g.2.1 1, 16000, .inl tx4)) := by rw [← hh10]; exact z_keep f9_ma_8 f9_ma_11 (z_t1 (by decide))
                            have kk10 : z_K (fun y => y = 20 ∨ y = 22 ∨ y = 29 ∨ y = 30 ∨ y = 31 ∨ y = 32 ∨ y = 33 ∨ y = 34) h h10 := kk9.tr (by rw [← hh10]; exact z_K.put f9_ma_8 (by first | decide | simp | omega))
                            refine lv_aload_n hx hb d_M_record_270 rfl (lv_at hl 0 rfl) ?_
                            refine z_get hx hb hts (z_lay i_M) hown hK hw f10_mo rfl 16 (by decide) (z_in k_787 rfl) (fun _ h9 => h9) rfl d_M_record_271 ?_
                            refine lv_iload hx hb d_M_record_274 (lv_at hl 4 rfl) ?_
                            refine lv_aload_n hx hb d_M_record_276 rfl (lv_at hl 0 rfl) ?_
                            refine z_get hx hb hts (z_lay i_M) hown hK hw f10_mo rfl 24 (by decide) (z_in k_795 rfl) (fun _ h9 => h9) rfl d_M_record_277 ?_
                            refine lv_iload hx hb d_M_record_280 (lv_at hl 4 rfl) ?_
                            refine z_iald hx hb hK hw f10_ma_15 1 rfl (vp_in_nI (by omega) (by omega)) d_M_record_282 ?_
                            refine z_topi (y := os2 k) (by rw [nI_clamp (by omega)]) ?_
                            refine z_iast hx hb hK hw f10_ma_9 1 rfl (vp_in_nI (by omega) (by omega)) d_M_record_283 (fun H locs hw => ?_)
                            rw [nI_clamp (by omega)] at hw
                            obtain ⟨h11, hh11⟩ : ∃ x9, z_put h10 (ma 9) (29, 3) (.inl (g.2.1 1, 2000, .inl (upd ns5 k (os2 k)))) = x9 := ⟨_, rfl⟩
                            have hw : z_S g A s.heap h11 H locs := by rw [← hh11]; exact hw
                            have f11_mo : h11 mo = some ((20, 0), .inr (11, mF ma 0 0 (nI i) (nI S.1) (nI (cc S)) ffl fcl (nI R.1) (nI (tbC R.2 R.1)) (nI O.length) (nI (sk (tT T) i p4)) i6)) := by rw [← hh11]; exact z_keep f10_ma_9 f10_mo (z_t1 (by decide))
                            have f11_ma_1 : h11 (ma 1) = some ((22, 0), .inl (g.2.1 1, 4000, .inl f2)) := by rw [← hh11]; exact z_keep f10_ma_9 f10_ma_1 (z_t1 (by decide))
                            have f11_ma_0 : h11 (ma 0) = some ((21, 0), .inl (g.2.1 1, 4000, .inl ftp)) := by rw [← hh11]; exact z_keep f10_ma_9 f10_ma_0 (z_t1 (by decide))
                            have f11_ma_12 : h11 (ma 12) = some ((32, 0), .inl (g.2.1 1, 2000, .inl of2)) := by rw [← hh11]; exact z_keep f10_ma_9 f10_ma_12 (z_t1 (by decide))
                            have f11_ma_13 : h11 (ma 13) = some ((32, 1), .inl (g.2.1 1, 2000, .inl op2)) := by rw [← hh11]; exact z_keep f10_ma_9 f10_ma_13 (z_t1 (by decide))
                            have f11_ma_14 : h11 (ma 14) = some ((32, 2), .inl (g.2.1 1, 2000, .inl or2)) := by rw [← hh11]; exact z_keep f10_ma_9 f10_ma_14 (z_t1 (by decide))
                            have f11_ma_15 : h11 (ma 15) = some ((32, 3), .inl (g.2.1 1, 2000, .inl os2)) := by rw [← hh11]; exact z_keep f10_ma_9 f10_ma_15 (z_t1 (by decide))
                            have f11_ma_16 : h11 (ma 16) = some ((33, 0), .inl (g.2.1 2, 2000, .inr (.inl ov2))) := by rw [← hh11]; exact z_keep f10_ma_9 f10_ma_16 (z_t1 (by decide))
                            have f11_ma_17 : h11 (ma 17) = some ((34, 0), .inl (g.2.1 1, 16000, .inl ox2)) := by rw [← hh11]; exact z_keep f10_ma_9 f10_ma_17 (z_t1 (by decide))
                            have f11_ma_6 : h11 (ma 6) = some ((29, 0), .inl (g.2.1 1, 2000, .inl (upd nf5 k (of2 k)))) := by rw [← hh11]; exact z_keep f10_ma_9 f10_ma_6 (by decide)
                            have f11_ma_7 : h11 (ma 7) = some ((29, 1), .inl (g.2.1 1, 2000, .inl (upd np5 k (op2 k)))) := by rw [← hh11]; exact z_keep f10_ma_9 f10_ma_7 (by decide)
                            have f11_ma_8 : h11 (ma 8) = some ((29, 2), .inl (g.2.1 1, 2000, .inl (upd nr5 k (or2 k)))) := by rw [← hh11]; exact z_keep f10_ma_9 f10_ma_8 (by decide)
                            have f11_ma_9 : h11 (ma 9) = some ((29, 3), .inl (g.2.1 1, 2000, .inl (upd ns5 k (os2 k)))) := by rw [← hh11]; exact z_put_eq
                            have f11_ma_10 : h11 (ma 10) = some ((30, 0), .inl (g.2.1 2, 2000, .inr (.inl nv5))) := by rw [← hh11]; exact z_keep f10_ma_9 f10_ma_10 (z_t1 (by decide))
                            have f11_ma_11 : h11 (ma 11) = some ((31, 0), .inl (g.2.1 1, 16000, .inl tx4)) := by rw [← hh11]; exact z_keep f10_ma_9 f10_ma_11 (z_t1 (by decide))
                            have kk11 : z_K (fun y => y = 20 ∨ y = 22 ∨ y = 29 ∨ y = 30 ∨ y = 31 ∨ y = 32 ∨ y = 33 ∨ y = 34) h h11 := kk10.tr (by rw [← hh11]; exact z_K.put f10_ma_9 (by first | decide | simp | omega))
                            refine lv_aload_n hx hb d_M_record_284 rfl (lv_at hl 0 rfl) ?_
                            refine z_get hx hb hts (z_lay i_M) hown hK hw f11_mo rfl 17 (by decide) (z_in k_788 rfl) (fun _ h9 => h9) rfl d_M_record_285 ?_
                            refine lv_iload hx hb d_M_record_288 (lv_at hl 4 rfl) ?_
                            refine lv_aload_n hx hb d_M_record_290 rfl (lv_at hl 0 rfl) ?_
                            refine z_get hx hb hts (z_lay i_M) hown hK hw f11_mo rfl 25 (by decide) (z_in k_796 rfl) (fun _ h9 => h9) rfl d_M_record_291 ?_
                            refine lv_iload hx hb d_M_record_294 (lv_at hl 4 rfl) ?_
                            refine z_lald hx hb hK hw f11_ma_16 2 rfl (vp_in_nI (by omega) (by omega)) d_M_record_296 ?_
                            refine z_topl (y := ov2 k) (by rw [nI_clamp (by omega)]) ?_
                            refine z_last hx hb hK hw f11_ma_10 2 rfl (vp_in_nI (by omega) (by omega)) d_M_record_297 (fun H locs hw => ?_)
                            rw [nI_clamp (by omega)] at hw
                            obtain ⟨h12, hh12⟩ : ∃ x9, z_put h11 (ma 10) (30, 0) (.inl (g.2.1 2, 2000, .inr (.inl (vp_updL nv5 k (ov2 k))))) = x9 := ⟨_, rfl⟩
                            have hw : z_S g A s.heap h12 H locs := by rw [← hh12]; exact hw
                            have f12_mo : h12 mo = some ((20, 0), .inr (11, mF ma 0 0 (nI i) (nI S.1) (nI (cc S)) ffl fcl (nI R.1) (nI (tbC R.2 R.1)) (nI O.length) (nI (sk (tT T) i p4)) i6)) := by rw [← hh12]; exact z_keep f11_ma_10 f11_mo (z_t1 (by decide))
                            have f12_ma_1 : h12 (ma 1) = some ((22, 0), .inl (g.2.1 1, 4000, .inl f2)) := by rw [← hh12]; exact z_keep f11_ma_10 f11_ma_1 (z_t1 (by decide))
                            have f12_ma_0 : h12 (ma 0) = some ((21, 0), .inl (g.2.1 1, 4000, .inl ftp)) := by rw [← hh12]; exact z_keep f11_ma_10 f11_ma_0 (z_t1 (by decide))
                            have f12_ma_12 : h12 (ma 12) = some ((32, 0), .inl (g.2.1 1, 2000, .inl of2)) := by rw [← hh12]; exact z_keep f11_ma_10 f11_ma_12 (z_t1 (by decide))
                            have f12_ma_13 : h12 (ma 13) = some ((32, 1), .inl (g.2.1 1, 2000, .inl op2)) := by rw [← hh12]; exact z_keep f11_ma_10 f11_ma_13 (z_t1 (by decide))
                            have f12_ma_14 : h12 (ma 14) = some ((32, 2), .inl (g.2.1 1, 2000, .inl or2)) := by rw [← hh12]; exact z_keep f11_ma_10 f11_ma_14 (z_t1 (by decide))
                            have f12_ma_15 : h12 (ma 15) = some ((32, 3), .inl (g.2.1 1, 2000, .inl os2)) := by rw [← hh12]; exact z_keep f11_ma_10 f11_ma_15 (z_t1 (by decide))
                            have f12_ma_16 : h12 (ma 16) = some ((33, 0), .inl (g.2.1 2, 2000, .inr (.inl ov2))) := by rw [← hh12]; exact z_keep f11_ma_10 f11_ma_16 (z_t1 (by decide))
                            have f12_ma_17 : h12 (ma 17) = some ((34, 0), .inl (g.2.1 1, 16000, .inl ox2)) := by rw [← hh12]; exact z_keep f11_ma_10 f11_ma_17 (z_t1 (by decide))
                            have f12_ma_6 : h12 (ma 6) = some ((29, 0), .inl (g.2.1 1, 2000, .inl (upd nf5 k (of2 k)))) := by rw [← hh12]; exact z_keep f11_ma_10 f11_ma_6 (z_t1 (by decide))
                            have f12_ma_7 : h12 (ma 7) = some ((29, 1), .inl (g.2.1 1, 2000, .inl (upd np5 k (op2 k)))) := by rw [← hh12]; exact z_keep f11_ma_10 f11_ma_7 (z_t1 (by decide))
                            have f12_ma_8 : h12 (ma 8) = some ((29, 2), .inl (g.2.1 1, 2000, .inl (upd nr5 k (or2 k)))) := by rw [← hh12]; exact z_keep f11_ma_10 f11_ma_8 (z_t1 (by decide))
                            have f12_ma_9 : h12 (ma 9) = some ((29, 3), .inl (g.2.1 1, 2000, .inl (upd ns5 k (os2 k)))) := by rw [← hh12]; exact z_keep f11_ma_10 f11_ma_9 (z_t1 (by decide))
                            have f12_ma_10 : h12 (ma 10) = some ((30, 0), .inl (g.2.1 2, 2000, .inr (.inl (vp_updL nv5 k (ov2 k))))) := by rw [← hh12]; exact z_put_eq
                            have f12_ma_11 : h12 (ma 11) = some ((31, 0), .inl (g.2.1 1, 16000, .inl tx4)) := by rw [← hh12]; exact z_keep f11_ma_10 f11_ma_11 (z_t1 (by decide))
                            have kk12 : z_K (fun y => y = 20 ∨ y = 22 ∨ y = 29 ∨ y = 30 ∨ y = 31 ∨ y = 32 ∨ y = 33 ∨ y = 34) h h12 := kk11.tr (by rw [← hh12]; exact z_K.put f11_ma_10 (by first | decide | simp | omega))
                            refine lv_iinc (v := nI (k + 1)) (lv' := [(4, .int (nI (k + 1))), (0, .ref mo), (1, .int (nI i)), (2, .int (nI R.1)), (3, .int (nI (tbC R.2 R.1)))]) hx hb d_M_record_298 hl (k := 4) rfl (nI_1 k) (by decide) rfl (fun ls hl => ?_)
                            refine lv_goto (tgt := 219) hx hb d_M_record_301 (by decide) ?_
                            refine ih_219 (k + 1) (upd nf5 k (of2 k)) (upd np5 k (op2 k)) (upd nr5 k (or2 k)) (upd ns5 k (os2 k)) (vp_updL nv5 k (ov2 k)) h12 _ _ _ f12_mo f12_ma_1 f12_ma_0 f12_ma_12 f12_ma_13 f12_ma_14 f12_ma_15 f12_ma_16 f12_ma_17 f12_ma_6 f12_ma_7 f12_ma_8 f12_ma_9 f12_ma_10 f12_ma_11 (by omega) (fun j hj => (Nat.lt_succ_iff_lt_or_eq.mp hj).elim (fun z => by have y := hrs j z; exact ⟨(pk_un (by omega)).trans y.1, (pk_un (by omega)).trans y.2.1, (pk_un (by omega)).trans y.2.2.1, (pk_un (by omega)).trans y.2.2.2.1, (vp_updL_un (by omega)).trans y.2.2.2.2⟩) (fun z => by subst z; have y := hsv j (by omega); exact ⟨pk_us.trans y.1, pk_us.trans y.2.1, pk_us.trans y.2.2.1, pk_us.trans y.2.2.2.1, vp_updL_us.trans y.2.2.2.2⟩)) kk12 ?_ hw (lv_sub hl [1, 2, 3, 4, 0] rfl)
                            omega
                      exact loop_219 (R.1 - 0 + 1) 0 nf4 np4 nr4 ns4 nv4 h6 _ _ _ f6_mo f6_ma_1 f6_ma_0 f6_ma_12 f6_ma_13 f6_ma_14 f6_ma_15 f6_ma_16 f6_ma_17 f6_ma_6 f6_ma_7 f6_ma_8 f6_ma_9 f6_ma_10 f6_ma_11 (Nat.zero_le _) (fun j hj => absurd hj (Nat.not_lt_zero _)) kk6 (by omega) hw (lv_sub hl [1, 2, 3, 4, 0] rfl)
                  refine W.eq (g2 := F0 m 165 ls []) rfl ?_
                  refine lv_aload_n hx hb d_M_record_165 rfl (lv_at hl 0 rfl) ?_
                  refine z_callV (n := 0) (As := []) (rest := []) ⟨hx, hb, hml, hown, hts⟩ (m_blanks (t := tT T) (n := i) l g h4 m4 g4_ma_1 hn4 hf2 (by omega)) (z_in k_885 rfl) (z_in k_7 rfl) (z_in k_882 rfl) (z_in k_884 rfl) (z_in ks_27 rfl) (by decide +kernel) ⟨by first | exact Nat.le_of_ble_eq_true rfl | (dsimp only; omega) | omega, by first | exact Nat.le_of_ble_eq_true rfl | (dsimp only; omega) | omega⟩ hK hE hw hA rfl m4 rfl hl.1 (Nat.le_of_ble_eq_true rfl) d_M_record_166 ⟨by first | exact Nat.le_of_ble_eq_true rfl | (dsimp only; omega) | omega, by first | exact Nat.le_of_ble_eq_true rfl | (dsimp only; omega) | omega⟩ rfl (fun r9 h9 H locs hp hw => ?_)
                  have sq13 := sk_le (t := tT T) (n := i) (p := p4) (by omega)
                  obtain ⟨r8, hh14⟩ := hp
                  subst r8
                  obtain ⟨h14, e8⟩ : ∃ x9, x9 = h9 := ⟨_, rfl⟩
                  subst e8
                  have f14_mo : h14 mo = some ((20, 0), .inr (11, mF ma 0 0 (nI i) (nI S.1) (nI (cc S)) ffl fcl (nI R4.1) (nI (tbC R4.2 R4.1)) (nI O.length) (nI (sk (tT T) i p4)) (resJ (memT S (tT T) i 0 rec0)))) := by rw [← hh14]; exact z_put_eq
                  have f14_ma_1 : h14 (ma 1) = some ((22, 0), .inl (g.2.1 1, 4000, .inl f2)) := by rw [← hh14]; exact z_keep m4 g4_ma_1 (z_t1 (by decide))
                  have f14_ma_0 : h14 (ma 0) = some ((21, 0), .inl (g.2.1 1, 4000, .inl ftp)) := by rw [← hh14]; exact z_keep m4 g4_ma_0 (z_t1 (by decide))
                  have f14_ma_12 : h14 (ma 12) = some ((32, 0), .inl (g.2.1 1, 2000, .inl of2)) := by rw [← hh14]; exact z_keep m4 g4_ma_12 (z_t1 (by decide))
                  have f14_ma_13 : h14 (ma 13) = some ((32, 1), .inl (g.2.1 1, 2000, .inl op2)) := by rw [← hh14]; exact z_keep m4 g4_ma_13 (z_t1 (by decide))
                  have f14_ma_14 : h14 (ma 14) = some ((32, 2), .inl (g.2.1 1, 2000, .inl or2)) := by rw [← hh14]; exact z_keep m4 g4_ma_14 (z_t1 (by decide))
                  have f14_ma_15 : h14 (ma 15) = some ((32, 3), .inl (g.2.1 1, 2000, .inl os2)) := by rw [← hh14]; exact z_keep m4 g4_ma_15 (z_t1 (by decide))
                  have f14_ma_16 : h14 (ma 16) = some ((33, 0), .inl (g.2.1 2, 2000, .inr (.inl ov2))) := by rw [← hh14]; exact z_keep m4 g4_ma_16 (z_t1 (by decide))
                  have f14_ma_17 : h14 (ma 17) = some ((34, 0), .inl (g.2.1 1, 16000, .inl ox2)) := by rw [← hh14]; exact z_keep m4 g4_ma_17 (z_t1 (by decide))
                  have kk14 : z_K (fun y => y = 20 ∨ y = 22 ∨ y = 29 ∨ y = 30 ∨ y = 31 ∨ y = 32 ∨ y = 33 ∨ y = 34) h h14 := kk4.tr (by rw [← hh14]; exact z_K.put m4 (by first | decide | simp | omega))
                  have sg_Nh14 : z_K (fun y => y = 20) h4 h14 := sg_Nh4.tr (by rw [← hh14]; exact z_K.put m4 (by simp))
                  refine W.eq (g2 := F0 m 169 ls []) rfl ?_
                  refine lv_aload_n hx hb d_M_record_169 rfl (lv_at hl 0 rfl) ?_
                  refine z_get hx hb hts (z_lay i_M) hown hK hw f14_mo rfl 30 (by decide) (z_in k_801 rfl) (fun _ h9 => h9) rfl d_M_record_170 ?_
                  refine lv_iconst (v := (-1)) hx hb d_M_record_173 (by decide) ?_
                  refine lv_icmp_ne (tgt := 196) hx hb d_M_record_174 (by decide) (fun c_174 => ?_) (fun c_174 => ?_)
                  · -- 174: True
                    refine lv_aload_n hx hb d_M_record_196 rfl (lv_at hl 0 rfl) ?_
                    refine z_get hx hb hts (z_lay i_M) hown hK hw f14_mo rfl 30 (by decide) (z_in k_801 rfl) (fun _ h9 => h9) rfl d_M_record_197 ?_
                    refine lv_iconst (v := (-1)) hx hb d_M_record_200 (by decide) ?_
                    refine lv_icmp_ne (tgt := 206) hx hb d_M_record_201 (by decide) (fun c_201 => ?_) (fun c_201 => ?_)
                    · -- 201: True
                      exact loop_206 (0 + 1) (resJ (memT S (tT T) i 0 rec0)) h14 _ _ _ f14_mo f14_ma_1 f14_ma_0 f14_ma_12 f14_ma_13 f14_ma_14 f14_ma_15 f14_ma_16 f14_ma_17 (by unfold oRecord; rw [if_neg (not_few hi hT4), if_neg c_20, nI_clamp (by omega)]; obtain ⟨F9, eF9⟩ := resJ_inl c_174; rw [eF9]; rfl) kk14 (n4.k sg_Nh14 (by omega) (by omega) (by omega)) (by omega) hw (lv_sub hl [0, 1, 2, 3] rfl)
                    · -- 201: False
                      exact absurd (show _ = _ by simpa using c_201) c_174
                  · -- 174: False
                    have e174 : resJ (memT S (tT T) i 0 rec0) = -1 := by simpa using c_174
                    have fi15 : h14 mo = some ((20, 0), .inr (11, mF ma 0 0 (nI i) (nI S.1) (nI (cc S)) ffl fcl (nI R4.1) (nI (tbC R4.2 R4.1)) (nI O.length) (nI (sk (tT T) i p4)) (-1))) := by have z9 := f14_mo; rw [e174] at z9; exact z9
                    refine lv_aload_n hx hb d_M_record_177 rfl (lv_at hl 0 rfl) ?_
                    refine z_get hx hb hts (z_lay i_M) hown hK hw fi15 rfl 29 (by decide) (z_in k_800 rfl) (fun _ h9 => h9) rfl d_M_record_178 ?_
                    refine lv_aload_n hx hb d_M_record_181 rfl (lv_at hl 0 rfl) ?_
                    refine z_get hx hb hts (z_lay i_M) hown hK hw fi15 rfl 4 (by decide) (z_in k_775 rfl) (fun _ h9 => h9) rfl d_M_record_182 ?_
                    refine lv_icmp_ge (tgt := 196) hx hb d_M_record_185 (by decide) (fun c_185 => ?_) (fun c_185 => ?_)
                    · -- 185: True
                      have c_185 : i ≤ (sk (tT T) i p4) := (nI_leI (a := i) (b := sk (tT T) i p4) (by omega) (by omega)).mp c_185
                      refine lv_aload_n hx hb d_M_record_196 rfl (lv_at hl 0 rfl) ?_
                      refine z_get hx hb hts (z_lay i_M) hown hK hw fi15 rfl 30 (by decide) (z_in k_801 rfl) (fun _ h9 => h9) rfl d_M_record_197 ?_
                      refine lv_iconst (v := (-1)) hx hb d_M_record_200 (by decide) ?_
                      refine lv_icmp_ne (tgt := 206) hx hb d_M_record_201 (by decide) (fun c_201 => ?_) (fun c_201 => ?_)
                      · -- 201: True
                        exact absurd rfl c_201
                      · -- 201: False
                        refine lv_iconst (v := (-1)) hx hb d_M_record_204 (by decide) ?_
                        exact z_iret hx hb hr hlocks hw (by have eW : oRecord T S R (nI i) = (-1, [], R4) := (by unfold oRecord; rw [if_neg (not_few hi hT4), if_neg c_20, nI_clamp (by omega), (im4 e174).1]; dsimp only; rw [if_pos ((bt_end (fun k hk => (hf2 k hk).1)).mpr (by omega))]); refine ⟨by rw [eW], ?_, kk14.mono (fun y z => by unfold KMr; omega)⟩; rw [eW]; exact ⟨ma, _, _, _, _, _, _, fi15, ⟨ftp, f14_ma_0, Nat.zero_le _, fun k hk => absurd hk (Nat.not_lt_zero _)⟩, ⟨_, f14_ma_1⟩, ⟨_, _, _, hSc.k kk14 (by omega) (by omega) (by omega)⟩, hSf.k kk14 (by omega) (by omega) (by omega), n4.k sg_Nh14 (by omega) (by omega) (by omega), ⟨_, _, _, _, _, _, f14_ma_12, f14_ma_13, f14_ma_14, f14_ma_15, f14_ma_16, f14_ma_17⟩, hOu.k kk14 (by omega)⟩) (by decide) (by decide) d_M_record_205
                    · -- 185: False
                      have c_185 : ¬ (i ≤ (sk (tT T) i p4)) := fun z => c_185 ((nI_leI (a := i) (b := sk (tT T) i p4) (by omega) (by omega)).mpr z)
                      refine lv_aload_n hx hb d_M_record_188 rfl (lv_at hl 0 rfl) ?_
                      refine lv_aload_n hx hb d_M_record_189 rfl (lv_at hl 0 rfl) ?_
                      refine z_get hx hb hts (z_lay i_M) hown hK hw fi15 rfl 29 (by decide) (z_in k_800 rfl) (fun _ h9 => h9) rfl d_M_record_190 ?_
                      refine z_callV (n := 1) (As := [.int (nI (sk (tT T) i p4))]) (rest := []) ⟨hx, hb, hml, hown, hts⟩ (m_fail l g h14 fi15) (z_in k_914 rfl) (z_in k_7 rfl) (z_in k_911 rfl) (z_in k_913 rfl) (z_in ks_32 rfl) (by decide +kernel) ⟨by first | exact Nat.le_of_ble_eq_true rfl | (dsimp only; omega) | omega, by first | exact Nat.le_of_ble_eq_true rfl | (dsimp only; omega) | omega⟩ hK hE hw hA rfl fi15 rfl hl.1 (Nat.le_of_ble_eq_true rfl) d_M_record_193 ⟨by first | exact Nat.le_of_ble_eq_true rfl | (dsimp only; omega) | omega, by first | exact Nat.le_of_ble_eq_true rfl | (dsimp only; omega) | omega⟩ rfl (fun r9 h9 H locs hp hw => ?_)
                      obtain ⟨r8, hh16⟩ := hp
                      subst r8
                      obtain ⟨h16, e8⟩ : ∃ x9, x9 = h9 := ⟨_, rfl⟩
                      subst e8
                      have f16_mo : h16 mo = some ((20, 0), .inr (11, mF ma 0 0 (nI i) (nI S.1) (nI (cc S)) ffl fcl (nI R4.1) (nI (tbC R4.2 R4.1)) (nI O.length) (nI (sk (tT T) i p4)) (nI (sk (tT T) i p4)))) := by rw [← hh16]; exact z_put_eq
                      have f16_ma_1 : h16 (ma 1) = some ((22, 0), .inl (g.2.1 1, 4000, .inl f2)) := by rw [← hh16]; exact z_keep fi15 f14_ma_1 (z_t1 (by decide))
                      have f16_ma_0 : h16 (ma 0) = some ((21, 0), .inl (g.2.1 1, 4000, .inl ftp)) := by rw [← hh16]; exact z_keep fi15 f14_ma_0 (z_t1 (by decide))
                      have f16_ma_12 : h16 (ma 12) = some ((32, 0), .inl (g.2.1 1, 2000, .inl of2)) := by rw [← hh16]; exact z_keep fi15 f14_ma_12 (z_t1 (by decide))
                      have f16_ma_13 : h16 (ma 13) = some ((32, 1), .inl (g.2.1 1, 2000, .inl op2)) := by rw [← hh16]; exact z_keep fi15 f14_ma_13 (z_t1 (by decide))
                      have f16_ma_14 : h16 (ma 14) = some ((32, 2), .inl (g.2.1 1, 2000, .inl or2)) := by rw [← hh16]; exact z_keep fi15 f14_ma_14 (z_t1 (by decide))
                      have f16_ma_15 : h16 (ma 15) = some ((32, 3), .inl (g.2.1 1, 2000, .inl os2)) := by rw [← hh16]; exact z_keep fi15 f14_ma_15 (z_t1 (by decide))
                      have f16_ma_16 : h16 (ma 16) = some ((33, 0), .inl (g.2.1 2, 2000, .inr (.inl ov2))) := by rw [← hh16]; exact z_keep fi15 f14_ma_16 (z_t1 (by decide))
                      have f16_ma_17 : h16 (ma 17) = some ((34, 0), .inl (g.2.1 1, 16000, .inl ox2)) := by rw [← hh16]; exact z_keep fi15 f14_ma_17 (z_t1 (by decide))
                      have kk16 : z_K (fun y => y = 20 ∨ y = 22 ∨ y = 29 ∨ y = 30 ∨ y = 31 ∨ y = 32 ∨ y = 33 ∨ y = 34) h h16 := kk14.tr (by rw [← hh16]; exact z_K.put fi15 (by first | decide | simp | omega))
                      have sg_Nh16 : z_K (fun y => y = 20) h4 h16 := sg_Nh14.tr (by rw [← hh16]; exact z_K.put fi15 (by simp))
                      refine W.eq (g2 := F0 m 196 ls []) rfl ?_
                      refine lv_aload_n hx hb d_M_record_196 rfl (lv_at hl 0 rfl) ?_
                      refine z_get hx hb hts (z_lay i_M) hown hK hw f16_mo rfl 30 (by decide) (z_in k_801 rfl) (fun _ h9 => h9) rfl d_M_record_197 ?_
                      refine lv_iconst (v := (-1)) hx hb d_M_record_200 (by decide) ?_
                      refine lv_icmp_ne (tgt := 206) hx hb d_M_record_201 (by decide) (fun c_201 => ?_) (fun c_201 => ?_)
                      · -- 201: True
                        exact loop_206 (0 + 1) (nI (sk (tT T) i p4)) h16 _ _ _ f16_mo f16_ma_1 f16_ma_0 f16_ma_12 f16_ma_13 f16_ma_14 f16_ma_15 f16_ma_16 f16_ma_17 (by unfold oRecord; rw [if_neg (not_few hi hT4), if_neg c_20, nI_clamp (by omega)]; rw [(im4 e174).1]; dsimp only; rw [if_neg (fun z => by have := (bt_end (fun k hk => (hf2 k hk).1)).mp z; omega)]) kk16 (n4.k sg_Nh16 (by omega) (by omega) (by omega)) (by omega) hw (lv_sub hl [0, 1, 2, 3] rfl)
                      · -- 201: False
                        exact absurd (show _ = _ by simpa using c_201) (nI_ne1 (by omega))
                · -- 132: False
                  have c_132 : ¬ ((tbC R.2 R.1) ≤ k2) := fun z => c_132 ((nI_leI (a := tbC R.2 R.1) (b := k2) (by omega) (by omega)).mpr z)
                  refine lv_aload_n hx hb d_M_record_135 rfl (lv_at hl 0 rfl) ?_
                  refine z_get hx hb hts (z_lay i_M) hown hK hw L126_mo rfl 26 (by decide) (z_in k_797 rfl) (fun _ h9 => h9) rfl d_M_record_136 ?_
                  refine lv_iload hx hb d_M_record_139 (lv_at hl 4 rfl) ?_
                  refine lv_aload_n hx hb d_M_record_141 rfl (lv_at hl 0 rfl) ?_
                  refine z_get hx hb hts (z_lay i_M) hown hK hw L126_mo rfl 20 (by decide) (z_in k_791 rfl) (fun _ h9 => h9) rfl d_M_record_142 ?_
                  refine lv_iload hx hb d_M_record_145 (lv_at hl 4 rfl) ?_
                  refine z_iald hx hb hK hw L126_ma_11 1 rfl (vp_in_nI (by omega) (by omega)) d_M_record_147 ?_
                  refine z_topi (y := tx k2) (by rw [nI_clamp (by omega)]) ?_
                  refine z_iast hx hb hK hw L126_ma_17 1 rfl (vp_in_nI (by omega) (by omega)) d_M_record_148 (fun H locs hw => ?_)
                  rw [nI_clamp (by omega)] at hw
                  obtain ⟨h17, hh17⟩ : ∃ x9, z_put hB9 (ma 17) (34, 0) (.inl (g.2.1 1, 16000, .inl (upd ox2 k2 (tx k2)))) = x9 := ⟨_, rfl⟩
                  have hw : z_S g A s.heap h17 H locs := by rw [← hh17]; exact hw
                  have f17_mo : h17 mo = some ((20, 0), .inr (11, mF ma 0 0 (nI i) (nI S.1) (nI (cc S)) ffl fcl (nI R.1) (nI (tbC R.2 R.1)) (nI O.length) 0 (-1))) := by rw [← hh17]; exact z_keep L126_ma_17 L126_mo (z_t1 (by decide))
                  have f17_ma_1 : h17 (ma 1) = some ((22, 0), .inl (g.2.1 1, 4000, .inl f2)) := by rw [← hh17]; exact z_keep L126_ma_17 L126_ma_1 (z_t1 (by decide))
                  have f17_ma_0 : h17 (ma 0) = some ((21, 0), .inl (g.2.1 1, 4000, .inl ftp)) := by rw [← hh17]; exact z_keep L126_ma_17 L126_ma_0 (z_t1 (by decide))
                  have f17_ma_6 : h17 (ma 6) = some ((29, 0), .inl (g.2.1 1, 2000, .inl nf)) := by rw [← hh17]; exact z_keep L126_ma_17 L126_ma_6 (z_t1 (by decide))
                  have f17_ma_7 : h17 (ma 7) = some ((29, 1), .inl (g.2.1 1, 2000, .inl np)) := by rw [← hh17]; exact z_keep L126_ma_17 L126_ma_7 (z_t1 (by decide))
                  have f17_ma_8 : h17 (ma 8) = some ((29, 2), .inl (g.2.1 1, 2000, .inl nr)) := by rw [← hh17]; exact z_keep L126_ma_17 L126_ma_8 (z_t1 (by decide))
                  have f17_ma_9 : h17 (ma 9) = some ((29, 3), .inl (g.2.1 1, 2000, .inl ns)) := by rw [← hh17]; exact z_keep L126_ma_17 L126_ma_9 (z_t1 (by decide))
                  have f17_ma_10 : h17 (ma 10) = some ((30, 0), .inl (g.2.1 2, 2000, .inr (.inl nv))) := by rw [← hh17]; exact z_keep L126_ma_17 L126_ma_10 (z_t1 (by decide))
                  have f17_ma_11 : h17 (ma 11) = some ((31, 0), .inl (g.2.1 1, 16000, .inl tx)) := by rw [← hh17]; exact z_keep L126_ma_17 L126_ma_11 (z_t1 (by decide))
                  have f17_ma_12 : h17 (ma 12) = some ((32, 0), .inl (g.2.1 1, 2000, .inl of2)) := by rw [← hh17]; exact z_keep L126_ma_17 L126_ma_12 (z_t1 (by decide))
                  have f17_ma_13 : h17 (ma 13) = some ((32, 1), .inl (g.2.1 1, 2000, .inl op2)) := by rw [← hh17]; exact z_keep L126_ma_17 L126_ma_13 (z_t1 (by decide))
                  have f17_ma_14 : h17 (ma 14) = some ((32, 2), .inl (g.2.1 1, 2000, .inl or2)) := by rw [← hh17]; exact z_keep L126_ma_17 L126_ma_14 (z_t1 (by decide))
                  have f17_ma_15 : h17 (ma 15) = some ((32, 3), .inl (g.2.1 1, 2000, .inl os2)) := by rw [← hh17]; exact z_keep L126_ma_17 L126_ma_15 (z_t1 (by decide))
                  have f17_ma_16 : h17 (ma 16) = some ((33, 0), .inl (g.2.1 2, 2000, .inr (.inl ov2))) := by rw [← hh17]; exact z_keep L126_ma_17 L126_ma_16 (z_t1 (by decide))
                  have f17_ma_17 : h17 (ma 17) = some ((34, 0), .inl (g.2.1 1, 16000, .inl (upd ox2 k2 (tx k2)))) := by rw [← hh17]; exact z_put_eq
                  have kk17 : z_K (fun y => y = 20 ∨ y = 22 ∨ y = 29 ∨ y = 30 ∨ y = 31 ∨ y = 32 ∨ y = 33 ∨ y = 34) h h17 := kkB.tr (by rw [← hh17]; exact z_K.put L126_ma_17 (by first | decide | simp | omega))
                  refine lv_iinc (v := nI (k2 + 1)) (lv' := [(4, .int (nI (k2 + 1))), (0, .ref mo), (1, .int (nI i)), (2, .int (nI R.1)), (3, .int (nI (tbC R.2 R.1)))]) hx hb d_M_record_149 hl (k := 4) rfl (nI_1 k2) (by decide) rfl (fun ls hl => ?_)
                  refine lv_goto (tgt := 126) hx hb d_M_record_152 (by decide) ?_
                  refine ih_126 (k2 + 1) (upd ox2 k2 (tx k2)) h17 _ _ _ f17_mo f17_ma_1 f17_ma_0 f17_ma_6 f17_ma_7 f17_ma_8 f17_ma_9 f17_ma_10 f17_ma_11 f17_ma_12 f17_ma_13 f17_ma_14 f17_ma_15 f17_ma_16 f17_ma_17 (by omega) (fun j hj => (Nat.lt_succ_iff_lt_or_eq.mp hj).elim (fun z => by rw [pk_un (by omega)]; exact hsx j z) (fun z => by rw [z, pk_us])) kk17 ?_ hw (lv_sub hl [1, 2, 3, 4, 0] rfl)
                  omega
            exact loop_126 (tbC R.2 R.1 - 0 + 1) 0 ox hZA _ _ _ L38_mo L38_ma_1 L38_ma_0 L38_ma_6 L38_ma_7 L38_ma_8 L38_ma_9 L38_ma_10 L38_ma_11 L38_ma_12 L38_ma_13 L38_ma_14 L38_ma_15 L38_ma_16 L38_ma_17 (Nat.zero_le _) (fun j hj => absurd hj (Nat.not_lt_zero _)) kkA (by omega) hw (lv_sub hl [1, 2, 3, 4, 0] rfl)
          · -- 44: False
            have c_44 : ¬ (R.1 ≤ k) := fun z => c_44 ((nI_leI (a := R.1) (b := k) (by omega) (by omega)).mpr z)
            refine lv_aload_n hx hb d_M_record_47 rfl (lv_at hl 0 rfl) ?_
            refine z_get hx hb hts (z_lay i_M) hown hK hw L38_mo rfl 21 (by decide) (z_in k_792 rfl) (fun _ h9 => h9) rfl d_M_record_48 ?_
            refine lv_iload hx hb d_M_record_51 (lv_at hl 4 rfl) ?_
            refine lv_aload_n hx hb d_M_record_53 rfl (lv_at hl 0 rfl) ?_
            refine z_get hx hb hts (z_lay i_M) hown hK hw L38_mo rfl 13 (by decide) (z_in k_784 rfl) (fun _ h9 => h9) rfl d_M_record_54 ?_
            refine lv_iload hx hb d_M_record_57 (lv_at hl 4 rfl) ?_
            refine z_iald hx hb hK hw L38_ma_6 1 rfl (vp_in_nI (by omega) (by omega)) d_M_record_59 ?_
            refine z_topi (y := nf k) (by rw [nI_clamp (by omega)]) ?_
            refine z_iast hx hb hK hw L38_ma_12 1 rfl (vp_in_nI (by omega) (by omega)) d_M_record_60 (fun H locs hw => ?_)
            rw [nI_clamp (by omega)] at hw
            obtain ⟨h18, hh18⟩ : ∃ x9, z_put hZA (ma 12) (32, 0) (.inl (g.2.1 1, 2000, .inl (upd of2 k (nf k)))) = x9 := ⟨_, rfl⟩
            have hw : z_S g A s.heap h18 H locs := by rw [← hh18]; exact hw
            have f18_mo : h18 mo = some ((20, 0), .inr (11, mF ma 0 0 (nI i) (nI S.1) (nI (cc S)) ffl fcl (nI R.1) (nI (tbC R.2 R.1)) (nI O.length) 0 (-1))) := by rw [← hh18]; exact z_keep L38_ma_12 L38_mo (z_t1 (by decide))
            have f18_ma_1 : h18 (ma 1) = some ((22, 0), .inl (g.2.1 1, 4000, .inl f2)) := by rw [← hh18]; exact z_keep L38_ma_12 L38_ma_1 (z_t1 (by decide))
            have f18_ma_0 : h18 (ma 0) = some ((21, 0), .inl (g.2.1 1, 4000, .inl ftp)) := by rw [← hh18]; exact z_keep L38_ma_12 L38_ma_0 (z_t1 (by decide))
            have f18_ma_6 : h18 (ma 6) = some ((29, 0), .inl (g.2.1 1, 2000, .inl nf)) := by rw [← hh18]; exact z_keep L38_ma_12 L38_ma_6 (z_t1 (by decide))
            have f18_ma_7 : h18 (ma 7) = some ((29, 1), .inl (g.2.1 1, 2000, .inl np)) := by rw [← hh18]; exact z_keep L38_ma_12 L38_ma_7 (z_t1 (by decide))
            have f18_ma_8 : h18 (ma 8) = some ((29, 2), .inl (g.2.1 1, 2000, .inl nr)) := by rw [← hh18]; exact z_keep L38_ma_12 L38_ma_8 (z_t1 (by decide))
            have f18_ma_9 : h18 (ma 9) = some ((29, 3), .inl (g.2.1 1, 2000, .inl ns)) := by rw [← hh18]; exact z_keep L38_ma_12 L38_ma_9 (z_t1 (by decide))
            have f18_ma_10 : h18 (ma 10) = some ((30, 0), .inl (g.2.1 2, 2000, .inr (.inl nv))) := by rw [← hh18]; exact z_keep L38_ma_12 L38_ma_10 (z_t1 (by decide))
            have f18_ma_11 : h18 (ma 11) = some ((31, 0), .inl (g.2.1 1, 16000, .inl tx)) := by rw [← hh18]; exact z_keep L38_ma_12 L38_ma_11 (z_t1 (by decide))
            have f18_ma_12 : h18 (ma 12) = some ((32, 0), .inl (g.2.1 1, 2000, .inl (upd of2 k (nf k)))) := by rw [← hh18]; exact z_put_eq
            have f18_ma_13 : h18 (ma 13) = some ((32, 1), .inl (g.2.1 1, 2000, .inl op2)) := by rw [← hh18]; exact z_keep L38_ma_12 L38_ma_13 (by decide)
            have f18_ma_14 : h18 (ma 14) = some ((32, 2), .inl (g.2.1 1, 2000, .inl or2)) := by rw [← hh18]; exact z_keep L38_ma_12 L38_ma_14 (by decide)
            have f18_ma_15 : h18 (ma 15) = some ((32, 3), .inl (g.2.1 1, 2000, .inl os2)) := by rw [← hh18]; exact z_keep L38_ma_12 L38_ma_15 (by decide)
            have f18_ma_16 : h18 (ma 16) = some ((33, 0), .inl (g.2.1 2, 2000, .inr (.inl ov2))) := by rw [← hh18]; exact z_keep L38_ma_12 L38_ma_16 (z_t1 (by decide))
            have f18_ma_17 : h18 (ma 17) = some ((34, 0), .inl (g.2.1 1, 16000, .inl ox)) := by rw [← hh18]; exact z_keep L38_ma_12 L38_ma_17 (z_t1 (by decide))
            have kk18 : z_K (fun y => y = 20 ∨ y = 22 ∨ y = 29 ∨ y = 30 ∨ y = 31 ∨ y = 32 ∨ y = 33 ∨ y = 34) h h18 := kkA.tr (by rw [← hh18]; exact z_K.put L38_ma_12 (by first | decide | simp | omega))
            refine lv_aload_n hx hb d_M_record_61 rfl (lv_at hl 0 rfl) ?_
            refine z_get hx hb hts (z_lay i_M) hown hK hw f18_mo rfl 22 (by decide) (z_in k_793 rfl) (fun _ h9 => h9) rfl d_M_record_62 ?_
            refine lv_iload hx hb d_M_record_65 (lv_at hl 4 rfl) ?_
            refine lv_aload_n hx hb d_M_record_67 rfl (lv_at hl 0 rfl) ?_
            refine z_get hx hb hts (z_lay i_M) hown hK hw f18_mo rfl 14 (by decide) (z_in k_785 rfl) (fun _ h9 => h9) rfl d_M_record_68 ?_
            refine lv_iload hx hb d_M_record_71 (lv_at hl 4 rfl) ?_
            refine z_iald hx hb hK hw f18_ma_7 1 rfl (vp_in_nI (by omega) (by omega)) d_M_record_73 ?_
            refine z_topi (y := np k) (by rw [nI_clamp (by omega)]) ?_
            refine z_iast hx hb hK hw f18_ma_13 1 rfl (vp_in_nI (by omega) (by omega)) d_M_record_74 (fun H locs hw => ?_)
            rw [nI_clamp (by omega)] at hw
            obtain ⟨h19, hh19⟩ : ∃ x9, z_put h18 (ma 13) (32, 1) (.inl (g.2.1 1, 2000, .inl (upd op2 k (np k)))) = x9 := ⟨_, rfl⟩
            have hw : z_S g A s.heap h19 H locs := by rw [← hh19]; exact hw
            have f19_mo : h19 mo = some ((20, 0), .inr (11, mF ma 0 0 (nI i) (nI S.1) (nI (cc S)) ffl fcl (nI R.1) (nI (tbC R.2 R.1)) (nI O.length) 0 (-1))) := by rw [← hh19]; exact z_keep f18_ma_13 f18_mo (z_t1 (by decide))
            have f19_ma_1 : h19 (ma 1) = some ((22, 0), .inl (g.2.1 1, 4000, .inl f2)) := by rw [← hh19]; exact z_keep f18_ma_13 f18_ma_1 (z_t1 (by decide))
            have f19_ma_0 : h19 (ma 0) = some ((21, 0), .inl (g.2.1 1, 4000, .inl ftp)) := by rw [← hh19]; exact z_keep f18_ma_13 f18_ma_0 (z_t1 (by decide))
            have f19_ma_6 : h19 (ma 6) = some ((29, 0), .inl (g.2.1 1, 2000, .inl nf)) := by rw [← hh19]; exact z_keep f18_ma_13 f18_ma_6 (z_t1 (by decide))
            have f19_ma_7 : h19 (ma 7) = some ((29, 1), .inl (g.2.1 1, 2000, .inl np)) := by rw [← hh19]; exact z_keep f18_ma_13 f18_ma_7 (z_t1 (by decide))
            have f19_ma_8 : h19 (ma 8) = some ((29, 2), .inl (g.2.1 1, 2000, .inl nr)) := by rw [← hh19]; exact z_keep f18_ma_13 f18_ma_8 (z_t1 (by decide))
            have f19_ma_9 : h19 (ma 9) = some ((29, 3), .inl (g.2.1 1, 2000, .inl ns)) := by rw [← hh19]; exact z_keep f18_ma_13 f18_ma_9 (z_t1 (by decide))
            have f19_ma_10 : h19 (ma 10) = some ((30, 0), .inl (g.2.1 2, 2000, .inr (.inl nv))) := by rw [← hh19]; exact z_keep f18_ma_13 f18_ma_10 (z_t1 (by decide))
            have f19_ma_11 : h19 (ma 11) = some ((31, 0), .inl (g.2.1 1, 16000, .inl tx)) := by rw [← hh19]; exact z_keep f18_ma_13 f18_ma_11 (z_t1 (by decide))
            have f19_ma_12 : h19 (ma 12) = some ((32, 0), .inl (g.2.1 1, 2000, .inl (upd of2 k (nf k)))) := by rw [← hh19]; exact z_keep f18_ma_13 f18_ma_12 (by decide)
            have f19_ma_13 : h19 (ma 13) = some ((32, 1), .inl (g.2.1 1, 2000, .inl (upd op2 k (np k)))) := by rw [← hh19]; exact z_put_eq
            have f19_ma_14 : h19 (ma 14) = some ((32, 2), .inl (g.2.1 1, 2000, .inl or2)) := by rw [← hh19]; exact z_keep f18_ma_13 f18_ma_14 (by decide)
            have f19_ma_15 : h19 (ma 15) = some ((32, 3), .inl (g.2.1 1, 2000, .inl os2)) := by rw [← hh19]; exact z_keep f18_ma_13 f18_ma_15 (by decide)
            have f19_ma_16 : h19 (ma 16) = some ((33, 0), .inl (g.2.1 2, 2000, .inr (.inl ov2))) := by rw [← hh19]; exact z_keep f18_ma_13 f18_ma_16 (z_t1 (by decide))
            have f19_ma_17 : h19 (ma 17) = some ((34, 0), .inl (g.2.1 1, 16000, .inl ox)) := by rw [← hh19]; exact z_keep f18_ma_13 f18_ma_17 (z_t1 (by decide))
            have kk19 : z_K (fun y => y = 20 ∨ y = 22 ∨ y = 29 ∨ y = 30 ∨ y = 31 ∨ y = 32 ∨ y = 33 ∨ y = 34) h h19 := kk18.tr (by rw [← hh19]; exact z_K.put f18_ma_13 (by first | decide | simp | omega))
            refine lv_aload_n hx hb d_M_record_75 rfl (lv_at hl 0 rfl) ?_
            refine z_get hx hb hts (z_lay i_M) hown hK hw f19_mo rfl 23 (by decide) (z_in k_794 rfl) (fun _ h9 => h9) rfl d_M_record_76 ?_
            refine lv_iload hx hb d_M_record_79 (lv_at hl 4 rfl) ?_
            refine lv_aload_n hx hb d_M_record_81 rfl (lv_at hl 0 rfl) ?_
            refine z_get hx hb hts (z_lay i_M) hown hK hw f19_mo rfl 15 (by decide) (z_in k_786 rfl) (fun _ h9 => h9) rfl d_M_record_82 ?_
            refine lv_iload hx hb d_M_record_85 (lv_at hl 4 rfl) ?_
            refine z_iald hx hb hK hw f19_ma_8 1 rfl (vp_in_nI (by omega) (by omega)) d_M_record_87 ?_
            refine z_topi (y := nr k) (by rw [nI_clamp (by omega)]) ?_
            refine z_iast hx hb hK hw f19_ma_14 1 rfl (vp_in_nI (by omega) (by omega)) d_M_record_88 (fun H locs hw => ?_)
            rw [nI_clamp (by omega)] at hw
            obtain ⟨h20, hh20⟩ : ∃ x9, z_put h19 (ma 14) (32, 2) (.inl (g.2.1 1, 2000, .inl (upd or2 k (nr k)))) = x9 := ⟨_, rfl⟩
            have hw : z_S g A s.heap h20 H locs := by rw [← hh20]; exact hw
            have f20_mo : h20 mo = some ((20, 0), .inr (11, mF ma 0 0 (nI i) (nI S.1) (nI (cc S)) ffl fcl (nI R.1) (nI (tbC R.2 R.1)) (nI O.length) 0 (-1))) := by rw [← hh20]; exact z_keep f19_ma_14 f19_mo (z_t1 (by decide))
            have f20_ma_1 : h20 (ma 1) = some ((22, 0), .inl (g.2.1 1, 4000, .inl f2)) := by rw [← hh20]; exact z_keep f19_ma_14 f19_ma_1 (z_t1 (by decide))
            have f20_ma_0 : h20 (ma 0) = some ((21, 0), .inl (g.2.1 1, 4000, .inl ftp)) := by rw [← hh20]; exact z_keep f19_ma_14 f19_ma_0 (z_t1 (by decide))
            have f20_ma_6 : h20 (ma 6) = some ((29, 0), .inl (g.2.1 1, 2000, .inl nf)) := by rw [← hh20]; exact z_keep f19_ma_14 f19_ma_6 (z_t1 (by decide))
            have f20_ma_7 : h20 (ma 7) = some ((29, 1), .inl (g.2.1 1, 2000, .inl np)) := by rw [← hh20]; exact z_keep f19_ma_14 f19_ma_7 (z_t1 (by decide))
            have f20_ma_8 : h20 (ma 8) = some ((29, 2), .inl (g.2.1 1, 2000, .inl nr)) := by rw [← hh20]; exact z_keep f19_ma_14 f19_ma_8 (z_t1 (by decide))
            have f20_ma_9 : h20 (ma 9) = some ((29, 3), .inl (g.2.1 1, 2000, .inl ns)) := by rw [← hh20]; exact z_keep f19_ma_14 f19_ma_9 (z_t1 (by decide))
            have f20_ma_10 : h20 (ma 10) = some ((30, 0), .inl (g.2.1 2, 2000, .inr (.inl nv))) := by rw [← hh20]; exact z_keep f19_ma_14 f19_ma_10 (z_t1 (by decide))
            have f20_ma_11 : h20 (ma 11) = some ((31, 0), .inl (g.2.1 1, 16000, .inl tx)) := by rw [← hh20]; exact z_keep f19_ma_14 f19_ma_11 (z_t1 (by decide))
            have f20_ma_12 : h20 (ma 12) = some ((32, 0), .inl (g.2.1 1, 2000, .inl (upd of2 k (nf k)))) := by rw [← hh20]; exact z_keep f19_ma_14 f19_ma_12 (by decide)
            have f20_ma_13 : h20 (ma 13) = some ((32, 1), .inl (g.2.1 1, 2000, .inl (upd op2 k (np k)))) := by rw [← hh20]; exact z_keep f19_ma_14 f19_ma_13 (by decide)
            have f20_ma_14 : h20 (ma 14) = some ((32, 2), .inl (g.2.1 1, 2000, .inl (upd or2 k (nr k)))) := by rw [← hh20]; exact z_put_eq
            have f20_ma_15 : h20 (ma 15) = some ((32, 3), .inl (g.2.1 1, 2000, .inl os2)) := by rw [← hh20]; exact z_keep f19_ma_14 f19_ma_15 (by decide)
            have f20_ma_16 : h20 (ma 16) = some ((33, 0), .inl (g.2.1 2, 2000, .inr (.inl ov2))) := by rw [← hh20]; exact z_keep f19_ma_14 f19_ma_16 (z_t1 (by decide))
            have f20_ma_17 : h20 (ma 17) = some ((34, 0), .inl (g.2.1 1, 16000, .inl ox)) := by rw [← hh20]; exact z_keep f19_ma_14 f19_ma_17 (z_t1 (by decide))
            have kk20 : z_K (fun y => y = 20 ∨ y = 22 ∨ y = 29 ∨ y = 30 ∨ y = 31 ∨ y = 32 ∨ y = 33 ∨ y = 34) h h20 := kk19.tr (by rw [← hh20]; exact z_K.put f19_ma_14 (by first | decide | simp | omega))
            refine lv_aload_n hx hb d_M_record_89 rfl (lv_at hl 0 rfl) ?_
            refine z_get hx hb hts (z_lay i_M) hown hK hw f20_mo rfl 24 (by decide) (z_in k_795 rfl) (fun _ h9 => h9) rfl d_M_record_90 ?_
            refine lv_iload hx hb d_M_record_93 (lv_at hl 4 rfl) ?_
            refine lv_aload_n hx hb d_M_record_95 rfl (lv_at hl 0 rfl) ?_
            refine z_get hx hb hts (z_lay i_M) hown hK hw f20_mo rfl 16 (by decide) (z_in k_787 rfl) (fun _ h9 => h9) rfl d_M_record_96 ?_
            refine lv_iload hx hb d_M_record_99 (lv_at hl 4 rfl) ?_
            refine z_iald hx hb hK hw f20_ma_9 1 rfl (vp_in_nI (by omega) (by omega)) d_M_record_101 ?_
            refine z_topi (y := ns k) (by rw [nI_clamp (by omega)]) ?_
            refine z_iast hx hb hK hw f20_ma_15 1 rfl (vp_in_nI (by omega) (by omega)) d_M_record_102 (fun H locs hw => ?_)
            rw [nI_clamp (by omega)] at hw
            obtain ⟨h21, hh21⟩ : ∃ x9, z_put h20 (ma 15) (32, 3) (.inl (g.2.1 1, 2000, .inl (upd os2 k (ns k)))) = x9 := ⟨_, rfl⟩
            have hw : z_S g A s.heap h21 H locs := by rw [← hh21]; exact hw
            have f21_mo : h21 mo = some ((20, 0), .inr (11, mF ma 0 0 (nI i) (nI S.1) (nI (cc S)) ffl fcl (nI R.1) (nI (tbC R.2 R.1)) (nI O.length) 0 (-1))) := by rw [← hh21]; exact z_keep f20_ma_15 f20_mo (z_t1 (by decide))
            have f21_ma_1 : h21 (ma 1) = some ((22, 0), .inl (g.2.1 1, 4000, .inl f2)) := by rw [← hh21]; exact z_keep f20_ma_15 f20_ma_1 (z_t1 (by decide))
            have f21_ma_0 : h21 (ma 0) = some ((21, 0), .inl (g.2.1 1, 4000, .inl ftp)) := by rw [← hh21]; exact z_keep f20_ma_15 f20_ma_0 (z_t1 (by decide))
            have f21_ma_6 : h21 (ma 6) = some ((29, 0), .inl (g.2.1 1, 2000, .inl nf)) := by rw [← hh21]; exact z_keep f20_ma_15 f20_ma_6 (z_t1 (by decide))
            have f21_ma_7 : h21 (ma 7) = some ((29, 1), .inl (g.2.1 1, 2000, .inl np)) := by rw [← hh21]; exact z_keep f20_ma_15 f20_ma_7 (z_t1 (by decide))
            have f21_ma_8 : h21 (ma 8) = some ((29, 2), .inl (g.2.1 1, 2000, .inl nr)) := by rw [← hh21]; exact z_keep f20_ma_15 f20_ma_8 (z_t1 (by decide))
            have f21_ma_9 : h21 (ma 9) = some ((29, 3), .inl (g.2.1 1, 2000, .inl ns)) := by rw [← hh21]; exact z_keep f20_ma_15 f20_ma_9 (z_t1 (by decide))
            have f21_ma_10 : h21 (ma 10) = some ((30, 0), .inl (g.2.1 2, 2000, .inr (.inl nv))) := by rw [← hh21]; exact z_keep f20_ma_15 f20_ma_10 (z_t1 (by decide))
            have f21_ma_11 : h21 (ma 11) = some ((31, 0), .inl (g.2.1 1, 16000, .inl tx)) := by rw [← hh21]; exact z_keep f20_ma_15 f20_ma_11 (z_t1 (by decide))
            have f21_ma_12 : h21 (ma 12) = some ((32, 0), .inl (g.2.1 1, 2000, .inl (upd of2 k (nf k)))) := by rw [← hh21]; exact z_keep f20_ma_15 f20_ma_12 (by decide)
            have f21_ma_13 : h21 (ma 13) = some ((32, 1), .inl (g.2.1 1, 2000, .inl (upd op2 k (np k)))) := by rw [← hh21]; exact z_keep f20_ma_15 f20_ma_13 (by decide)
            have f21_ma_14 : h21 (ma 14) = some ((32, 2), .inl (g.2.1 1, 2000, .inl (upd or2 k (nr k)))) := by rw [← hh21]; exact z_keep f20_ma_15 f20_ma_14 (by decide)
            have f21_ma_15 : h21 (ma 15) = some ((32, 3), .inl (g.2.1 1, 2000, .inl (upd os2 k (ns k)))) := by rw [← hh21]; exact z_put_eq
            have f21_ma_16 : h21 (ma 16) = some ((33, 0), .inl (g.2.1 2, 2000, .inr (.inl ov2))) := by rw [← hh21]; exact z_keep f20_ma_15 f20_ma_16 (z_t1 (by decide))
            have f21_ma_17 : h21 (ma 17) = some ((34, 0), .inl (g.2.1 1, 16000, .inl ox)) := by rw [← hh21]; exact z_keep f20_ma_15 f20_ma_17 (z_t1 (by decide))
            have kk21 : z_K (fun y => y = 20 ∨ y = 22 ∨ y = 29 ∨ y = 30 ∨ y = 31 ∨ y = 32 ∨ y = 33 ∨ y = 34) h h21 := kk20.tr (by rw [← hh21]; exact z_K.put f20_ma_15 (by first | decide | simp | omega))
            refine lv_aload_n hx hb d_M_record_103 rfl (lv_at hl 0 rfl) ?_
            refine z_get hx hb hts (z_lay i_M) hown hK hw f21_mo rfl 25 (by decide) (z_in k_796 rfl) (fun _ h9 => h9) rfl d_M_record_104 ?_
            refine lv_iload hx hb d_M_record_107 (lv_at hl 4 rfl) ?_
            refine lv_aload_n hx hb d_M_record_109 rfl (lv_at hl 0 rfl) ?_
            refine z_get hx hb hts (z_lay i_M) hown hK hw f21_mo rfl 17 (by decide) (z_in k_788 rfl) (fun _ h9 => h9) rfl d_M_record_110 ?_
            refine lv_iload hx hb d_M_record_113 (lv_at hl 4 rfl) ?_
            refine z_lald hx hb hK hw f21_ma_10 2 rfl (vp_in_nI (by omega) (by omega)) d_M_record_115 ?_
            refine z_topl (y := nv k) (by rw [nI_clamp (by omega)]) ?_
            refine z_last hx hb hK hw f21_ma_16 2 rfl (vp_in_nI (by omega) (by omega)) d_M_record_116 (fun H locs hw => ?_)
            rw [nI_clamp (by omega)] at hw
            obtain ⟨h22, hh22⟩ : ∃ x9, z_put h21 (ma 16) (33, 0) (.inl (g.2.1 2, 2000, .inr (.inl (vp_updL ov2 k (nv k))))) = x9 := ⟨_, rfl⟩
            have hw : z_S g A s.heap h22 H locs := by rw [← hh22]; exact hw
            have f22_mo : h22 mo = some ((20, 0), .inr (11, mF ma 0 0 (nI i) (nI S.1) (nI (cc S)) ffl fcl (nI R.1) (nI (tbC R.2 R.1)) (nI O.length) 0 (-1))) := by rw [← hh22]; exact z_keep f21_ma_16 f21_mo (z_t1 (by decide))
            have f22_ma_1 : h22 (ma 1) = some ((22, 0), .inl (g.2.1 1, 4000, .inl f2)) := by rw [← hh22]; exact z_keep f21_ma_16 f21_ma_1 (z_t1 (by decide))
            have f22_ma_0 : h22 (ma 0) = some ((21, 0), .inl (g.2.1 1, 4000, .inl ftp)) := by rw [← hh22]; exact z_keep f21_ma_16 f21_ma_0 (z_t1 (by decide))
            have f22_ma_6 : h22 (ma 6) = some ((29, 0), .inl (g.2.1 1, 2000, .inl nf)) := by rw [← hh22]; exact z_keep f21_ma_16 f21_ma_6 (z_t1 (by decide))
            have f22_ma_7 : h22 (ma 7) = some ((29, 1), .inl (g.2.1 1, 2000, .inl np)) := by rw [← hh22]; exact z_keep f21_ma_16 f21_ma_7 (z_t1 (by decide))
            have f22_ma_8 : h22 (ma 8) = some ((29, 2), .inl (g.2.1 1, 2000, .inl nr)) := by rw [← hh22]; exact z_keep f21_ma_16 f21_ma_8 (z_t1 (by decide))
            have f22_ma_9 : h22 (ma 9) = some ((29, 3), .inl (g.2.1 1, 2000, .inl ns)) := by rw [← hh22]; exact z_keep f21_ma_16 f21_ma_9 (z_t1 (by decide))
            have f22_ma_10 : h22 (ma 10) = some ((30, 0), .inl (g.2.1 2, 2000, .inr (.inl nv))) := by rw [← hh22]; exact z_keep f21_ma_16 f21_ma_10 (z_t1 (by decide))
            have f22_ma_11 : h22 (ma 11) = some ((31, 0), .inl (g.2.1 1, 16000, .inl tx)) := by rw [← hh22]; exact z_keep f21_ma_16 f21_ma_11 (z_t1 (by decide))
            have f22_ma_12 : h22 (ma 12) = some ((32, 0), .inl (g.2.1 1, 2000, .inl (upd of2 k (nf k)))) := by rw [← hh22]; exact z_keep f21_ma_16 f21_ma_12 (z_t1 (by decide))
            have f22_ma_13 : h22 (ma 13) = some ((32, 1), .inl (g.2.1 1, 2000, .inl (upd op2 k (np k)))) := by rw [← hh22]; exact z_keep f21_ma_16 f21_ma_13 (z_t1 (by decide))
            have f22_ma_14 : h22 (ma 14) = some ((32, 2), .inl (g.2.1 1, 2000, .inl (upd or2 k (nr k)))) := by rw [← hh22]; exact z_keep f21_ma_16 f21_ma_14 (z_t1 (by decide))
            have f22_ma_15 : h22 (ma 15) = some ((32, 3), .inl (g.2.1 1, 2000, .inl (upd os2 k (ns k)))) := by rw [← hh22]; exact z_keep f21_ma_16 f21_ma_15 (z_t1 (by decide))
            have f22_ma_16 : h22 (ma 16) = some ((33, 0), .inl (g.2.1 2, 2000, .inr (.inl (vp_updL ov2 k (nv k))))) := by rw [← hh22]; exact z_put_eq
            have f22_ma_17 : h22 (ma 17) = some ((34, 0), .inl (g.2.1 1, 16000, .inl ox)) := by rw [← hh22]; exact z_keep f21_ma_16 f21_ma_17 (z_t1 (by decide))
            have kk22 : z_K (fun y => y = 20 ∨ y = 22 ∨ y = 29 ∨ y = 30 ∨ y = 31 ∨ y = 32 ∨ y = 33 ∨ y = 34) h h22 := kk21.tr (by rw [← hh22]; exact z_K.put f21_ma_16 (by first | decide | simp | omega))
            refine lv_iinc (v := nI (k + 1)) (lv' := [(4, .int (nI (k + 1))), (0, .ref mo), (1, .int (nI i)), (2, .int (nI R.1)), (3, .int (nI (tbC R.2 R.1)))]) hx hb d_M_record_117 hl (k := 4) rfl (nI_1 k) (by decide) rfl (fun ls hl => ?_)
            refine lv_goto (tgt := 38) hx hb d_M_record_120 (by decide) ?_
            refine ih_38 (k + 1) (upd of2 k (nf k)) (upd op2 k (np k)) (upd or2 k (nr k)) (upd os2 k (ns k)) (vp_updL ov2 k (nv k)) h22 _ _ _ f22_mo f22_ma_1 f22_ma_0 f22_ma_6 f22_ma_7 f22_ma_8 f22_ma_9 f22_ma_10 f22_ma_11 f22_ma_12 f22_ma_13 f22_ma_14 f22_ma_15 f22_ma_16 f22_ma_17 (by omega) (fun j hj => (Nat.lt_succ_iff_lt_or_eq.mp hj).elim (fun z => by have y := hsv j z; exact ⟨(pk_un (by omega)).trans y.1, (pk_un (by omega)).trans y.2.1, (pk_un (by omega)).trans y.2.2.1, (pk_un (by omega)).trans y.2.2.2.1, (vp_updL_un (by omega)).trans y.2.2.2.2⟩) (fun z => by subst z; exact ⟨pk_us, pk_us, pk_us, pk_us, vp_updL_us⟩)) kk22 ?_ hw (lv_sub hl [1, 2, 3, 4, 0] rfl)
            omega
      exact loop_38 (R.1 - 0 + 1) 0 of op or9 os ov h2 _ _ _ m8 t8 g2_ma_0 g2_ma_6 g2_ma_7 g2_ma_8 g2_ma_9 g2_ma_10 g2_ma_11 g2_ma_12 g2_ma_13 g2_ma_14 g2_ma_15 g2_ma_16 g2_ma_17 (Nat.zero_le _) (fun j hj => absurd hj (Nat.not_lt_zero _)) kk2 (by omega) hw (lv_sub hl [3, 4, 2, 1, 0] rfl)
    · -- 20: False
      have c_20 : S.1 = 0 := (nI_eq (a := S.1) (b := 0) (by omega) (by omega)).mp c_20
      refine lv_iconst (v := 0) hx hb d_M_record_23 (by decide) ?_
      exact z_iret hx hb hr hlocks hw (by have eW : oRecord T S R (nI i) = (0, [], R) := (by unfold oRecord; rw [if_neg (not_few hi hT4), if_pos (by omega)]); refine ⟨by rw [eW], ?_, kk2.mono (fun y z => by unfold KMr; omega)⟩; rw [eW]; exact ⟨ma, _, _, _, _, _, _, m8, ⟨ftp, g2_ma_0, Nat.zero_le _, fun k hk => absurd hk (Nat.not_lt_zero _)⟩, ⟨_, t8⟩, ⟨_, _, _, hSc.k kk2 (by omega) (by omega) (by omega)⟩, hSf.k kk2 (by omega) (by omega) (by omega), ⟨_, _, _, _, _, _, MNp.same hNd g2_ma_6 g2_ma_7 g2_ma_8 g2_ma_9 g2_ma_10 g2_ma_11 (fun j _ => ⟨rfl, rfl, rfl, rfl, rfl⟩) (fun j _ => rfl)⟩, ⟨_, _, _, _, _, _, g2_ma_12, g2_ma_13, g2_ma_14, g2_ma_15, g2_ma_16, g2_ma_17⟩, hOu.k kk2 (by omega)⟩) (by decide) (by decide) d_M_record_24
  · -- 10: False
    exact absurd c_10 (by decide)

theorem c_readMembers0 (l : Launch) (g : z_G) (h : z_H) {r q : Nat} {S : Sch} {fa9 ca : Nat} {adS na : Nat → Nat} {ff : Nat → Option Nat} {cf : Nat → Int32} {nf : Nat → Nat → Int32} {rd sc mr w tr b len n : Nat} {f : Nat → Int32} {t : Nat → Nat} {fa ws wd : Int32} {nu9 : Int64} {X : RRes} (eX : X = memT S t n 0 rec0) (hn : n ≤ len) (hlen : len < 2 ^ 31) (hf : ∀ k, k < n → t k < 256 ∧ f k = sb_b (t k)) (hl29 : len < 2 ^ 29) (hn4 : n ≤ 4000) (hm : mr < 60) (hm2 : 12 ≤ mr) (hr0 : 100 ≤ r) (h1 : SchP g h r q S fa9 ca adS na ff cf nf) (h2 : h rd = some ((8, 0), .inr (9, [.ref sc, .ref q, .ref w, .ref tr, .long nu9]))) (h3 : h sc = some ((6, 0), .inr (7, [.ref b, .int (nI n), .int (nI 0), .int fa, .int ws, .int wd]))) (h4 : h b = some ((3, 0), .inl (g.2.1 0, len, .inl f))) (h5 : trAt g h tr []) (h6 : NdAt g h mr w S rec0) : z_C l y_RecordReader_readMembers prog_6_method_2_code 8 (Option.some Jvm.ClassFile.FieldType.boolean) 294 7800 (2 * ((rrR X).1 - 1)) (7 * ((rrR X).1 - 1) + tbR (rrR X)) g [.ref rd, .int (-1), .int 0, .int 0] h (vlP g X h mr w S rd sc q tr b n) := by
  subst eX
  exact c_readMembers_top l g hn hlen hf hl29 hn4 hm hm2 hr0 h 0 rec0 fa ws wd nu9 h1 h2 h3 h4 h5 h6 rec0_ok (Nat.zero_le _) (by decide) (by decide) (by decide)

set_option maxHeartbeats 300000 in
set_option maxRecDepth 100000 in
theorem x_record_few (l : Launch) (g : z_G) (h : z_H) {xo : Nat} {T : List Nat} {S : Sch} {R : Rec} {O : List Nat} {j : Nat} {n : Int32}  (hX : XAt g h xo T S R O j) (ho : n < 0 ∨ nI T.length < n) : z_C l y_X_record prog_1_method_9_code 5 (Option.some Jvm.ClassFile.FieldType.int) 300 7900 1 6 g [.ref xo, .int n] h (fun x h1 => x = some (.int (-2)) ∧ h = h1) := by
  refine z_C.of (by decide) (Nat.le_of_ble_eq_true rfl) (fun pg en s m below meth cd A ls hx hb hml hr hts hown hlocks hnm hK hE hA hw hl => ?_)
  have hl : lv_has ls 5 [(0, .ref xo), (1, .int n)] := hl
  obtain ⟨tp, b, ow, kn, pr, sp, r, mr, mr2, ra2, f, rf2, a2, c2, hxo, htp0, hb0, ⟨hfb, hT4, hT⟩, ⟨hO, hj⟩, ⟨⟨fa9, ca, adS, na, ff, cf, nf, hS⟩, hr0, hgr⟩, ⟨⟨ra, ad, tx, rf, tf, hN⟩, hpa⟩, ⟨hsp, hra2⟩, hmr⟩ := id hX
  have hkn := hS.1
  have hpr := hN.1
  have hs8 : S.1 ≤ 128 := hS.2.2.2.2.2.2.2.1
  have hcc8 : cc S ≤ 64 := hS.2.2.2.2.2.2.2.2
  have hR2 : R.1 ≤ 2000 := hN.2.2.2.2.2.1
  refine lv_aload_n hx hb d_X_record_0 rfl (lv_at hl 0 rfl) ?_
  refine z_get hx hb hts (z_lay i_X) hown hK hw hxo rfl 0 (by decide) (z_in k_146 rfl) (fun _ h9 => h9) rfl d_X_record_1 ?_
  refine lv_iload_n hx hb d_X_record_4 rfl (lv_at hl 1 rfl) ?_
  refine z_callV (n := 1) (As := [.int n]) (rest := []) ⟨hx, hb, hml, hown, hts⟩ (c_Tape_cut_few l g h htp0 hT4 ho) (z_in k_181 rfl) (z_in k_2 rfl) (z_in k_178 rfl) (z_in k_179 rfl) (z_in k_180 rfl) (by decide +kernel) ⟨by first | exact Nat.le_of_ble_eq_true rfl | (dsimp only; omega) | omega, by first | exact Nat.le_of_ble_eq_true rfl | (dsimp only; omega) | omega⟩ hK hE hw hA rfl htp0 rfl hl.1 (Nat.le_of_ble_eq_true rfl) d_X_record_5 ⟨by first | exact Nat.le_of_ble_eq_true rfl | (dsimp only; omega) | omega, by first | exact Nat.le_of_ble_eq_true rfl | (dsimp only; omega) | omega⟩ rfl (fun r9 h9 H locs hp hw => ?_)
  obtain ⟨r8, h8⟩ := hp
  subst r8
  subst h8
  refine W.eq (g2 := F0 m 8 ls [.null]) rfl ?_
  refine lv_astore_nN (lv' := [(2, .null), (0, .ref xo), (1, .int n)]) hx hb d_X_record_8 rfl hl (by decide) rfl (fun ls hl => ?_)
  refine lv_aload_nN hx hb d_X_record_9 rfl (lv_at hl 0 rfl) ?_
  refine lv_ifnonnullN hx hb d_X_record_10 ?_
  refine lv_bipush (v := (-2)) hx hb d_X_record_13 (by decide) ?_
  exact z_iret hx hb hr hlocks hw ⟨rfl, rfl⟩ (by decide) (by decide) d_X_record_15

set_option maxHeartbeats 300000 in
set_option maxRecDepth 100000 in
theorem x_record_ok (l : Launch) (g : z_G) (h : z_H) {xo : Nat} {T : List Nat} {S : Sch} {R : Rec} {O : List Nat} {j : Nat} {i : Nat} {X9 : RRes}  (hX : XAt g h xo T S R O j) (hi : i ≤ T.length) (eX9 : X9 = memT S (tT T) i 0 rec0) : z_C l y_X_record prog_1_method_9_code 5 (Option.some Jvm.ClassFile.FieldType.int) 300 7900 (6 + 2 * ((rrR X9).1 - 1)) (300 + (7 * ((rrR X9).1 - 1) + tbR (rrR X9))) g [.ref xo, .int (nI i)] h (fun x h1 => XPt g h x (.int (oRecord T S R (nI i)).1) h1 xo (oRecord T S R (nI i)).2.1 S (oRecord T S R (nI i)).2.2 O j) := by
  refine z_C.of (by decide) (Nat.le_of_ble_eq_true rfl) (fun pg en s m below meth cd A ls hx hb hml hr hts hown hlocks hnm hK hE hA hw hl => ?_)
  have hl : lv_has ls 5 [(0, .ref xo), (1, .int (nI i))] := hl
  obtain ⟨tp, b, ow, kn, pr, sp, r, mr, mr2, ra2, f, rf2, a2, c2, hxo, htp0, hb0, ⟨hfb, hT4, hT⟩, ⟨hO, hj⟩, ⟨⟨fa9, ca, adS, na, ff, cf, nf, hS⟩, hr0, hgr⟩, ⟨⟨ra, ad, tx, rf, tf, hN⟩, hpa⟩, ⟨hsp, hra2⟩, hmr⟩ := id hX
  have hkn := hS.1
  have hpr := hN.1
  have hs8 : S.1 ≤ 128 := hS.2.2.2.2.2.2.2.1
  have hcc8 : cc S ≤ 64 := hS.2.2.2.2.2.2.2.2
  have hR2 : R.1 ≤ 2000 := hN.2.2.2.2.2.1
  have kk0 : z_K (fun y => y = 1 ∨ y = 2 ∨ y = 6 ∨ y = 8 ∨ y = 10 ∨ y = mr2 ∨ y = mr2 + 1) h h := z_K.rf
  refine lv_aload_n hx hb d_X_record_0 rfl (lv_at hl 0 rfl) ?_
  refine z_get hx hb hts (z_lay i_X) hown hK hw hxo rfl 0 (by decide) (z_in k_146 rfl) (fun _ h9 => h9) rfl d_X_record_1 ?_
  refine lv_iload_n hx hb d_X_record_4 rfl (lv_at hl 1 rfl) ?_
  refine z_callV (n := 1) (As := [.int (nI i)]) (rest := []) ⟨hx, hb, hml, hown, hts⟩ (c_Tape_cut (k := i) l g h htp0 hT4 hi) (z_in k_181 rfl) (z_in k_2 rfl) (z_in k_178 rfl) (z_in k_179 rfl) (z_in k_180 rfl) (by decide +kernel) ⟨by first | exact Nat.le_of_ble_eq_true rfl | (dsimp only; omega) | omega, by first | exact Nat.le_of_ble_eq_true rfl | (dsimp only; omega) | omega⟩ hK hE hw hA rfl htp0 rfl hl.1 (Nat.le_of_ble_eq_true rfl) d_X_record_5 ⟨by first | exact Nat.le_of_ble_eq_true rfl | (dsimp only; omega) | omega, by first | exact Nat.le_of_ble_eq_true rfl | (dsimp only; omega) | omega⟩ rfl (fun r9 h9 H locs hp hw => ?_)
  obtain ⟨sc, r8, hscC, htpC, k8⟩ := hp
  subst r8
  obtain ⟨h1, e7⟩ : ∃ x9, x9 = h9 := ⟨_, rfl⟩
  subst e7
  have g1_xo : h1 xo = some ((1, 0), .inr (0, [.ref tp, .ref ow, .ref kn, .ref pr, .ref sp])) := k8 _ _ _ hxo (by simp; try omega)
  have g1_b : h1 b = some ((3, 0), .inl (g.2.1 0, 4000, .inl f)) := k8 _ _ _ hb0 (by simp; try omega)
  have g1_kn : h1 kn = some ((r, 0), .inr (3, [.ref fa9, .ref ca, .int (nI S.1), .int (nI (cc S)), .int (nI (rq S (-1)))])) := k8 _ _ _ hkn (by simp; try omega)
  have g1_pr : h1 pr = some ((mr, 0), .inr (5, [.ref ra, .int (nI R.1), .int (nI (tbC R.2 R.1))])) := k8 _ _ _ hpr (by simp; try omega)
  have g1_sp : h1 sp = some ((mr2, 0), .inr (5, [.ref ra2, .int a2, .int c2])) := k8 _ _ _ hsp (by simp; try omega)
  have g1_ra2 : h1 ra2 = some ((mr2, 1), .inl (g.2.1 4, 2000, .inr (.inr (.inr (.inr rf2))))) := k8 _ _ _ hra2 (by simp; try omega)
  have kk1 : z_K (fun y => y = 1 ∨ y = 2 ∨ y = 6 ∨ y = 8 ∨ y = 10 ∨ y = mr2 ∨ y = mr2 + 1) h h1 := kk0.tr (k8.mono (fun y z => by rcases z with z | z <;> simp [z]))
  refine W.eq (g2 := F0 m 8 ls [.ref sc]) rfl ?_
  refine lv_astore_n (lv' := [(2, .ref sc), (0, .ref xo), (1, .int (nI i))]) hx hb d_X_record_8 rfl hl (by decide) rfl (fun ls hl => ?_)
  refine lv_aload_n hx hb d_X_record_9 rfl (lv_at hl 0 rfl) ?_
  refine lv_ifnonnull (tgt := 16) hx hb d_X_record_10 (by decide) ?_
  refine lv_aload_n hx hb d_X_record_16 rfl (lv_at hl 1 rfl) ?_
  refine z_get hx hb hts (z_lay i_X) hown hK hw g1_xo rfl 2 (by decide) (z_in k_148 rfl) (fun _ h9 => h9) rfl d_X_record_17 ?_
  refine z_getN hx hb hts (z_lay i_Schema) hown hK hw g1_kn rfl 2 (by decide) hE.nest (z_inN k_67 rfl) (fun _ h9 => h9) rfl d_X_record_20 ?_
  refine lv_if_ne (tgt := 28) hx hb d_X_record_23 (by decide) (fun c_23 => ?_) (fun c_23 => ?_)
  · -- 23: True
    have c_23 : ¬ (S.1 = 0) := fun z => c_23 ((nI_eq (a := S.1) (b := 0) (by omega) (by omega)).mpr z)
    refine lv_aload_n hx hb d_X_record_28 rfl (lv_at hl 1 rfl) ?_
    refine z_get hx hb hts (z_lay i_X) hown hK hw g1_xo rfl 4 (by decide) (z_in k_150 rfl) (fun _ h9 => h9) rfl d_X_record_29 ?_
    refine z_callV (n := 0) (As := []) (rest := []) ⟨hx, hb, hml, hown, hts⟩ (c_NodeRow_clear l g h1 g1_sp g1_ra2) (z_in k_94 rfl) (z_in k_5 rfl) (z_in k_458 rfl) (z_in k_92 rfl) (z_in k_93 rfl) (by decide +kernel) ⟨by first | exact Nat.le_of_ble_eq_true rfl | (dsimp only; omega) | omega, by first | exact Nat.le_of_ble_eq_true rfl | (dsimp only; omega) | omega⟩ hK hE hw hA rfl g1_sp rfl hl.1 (Nat.le_of_ble_eq_true rfl) d_X_record_32 ⟨by first | exact Nat.le_of_ble_eq_true rfl | (dsimp only; omega) | omega, by first | exact Nat.le_of_ble_eq_true rfl | (dsimp only; omega) | omega⟩ rfl (fun r9 h9 H locs hp hw => ?_)
    obtain ⟨adC, txC, rfC, tfC, r8, nC, kC⟩ := hp
    subst r8
    obtain ⟨h2, e7⟩ : ∃ x9, x9 = h9 := ⟨_, rfl⟩
    subst e7
    have g2_xo : h2 xo = some ((1, 0), .inr (0, [.ref tp, .ref ow, .ref kn, .ref pr, .ref sp])) := kC _ _ _ g1_xo (by simp; try omega)
    have g2_tp : h2 tp = some ((2, 0), .inr (1, [.ref b, .int (nI 0)])) := kC _ _ _ htpC (by simp; try omega)
    have g2_b : h2 b = some ((3, 0), .inl (g.2.1 0, 4000, .inl f)) := kC _ _ _ g1_b (by simp; try omega)
    have g2_kn : h2 kn = some ((r, 0), .inr (3, [.ref fa9, .ref ca, .int (nI S.1), .int (nI (cc S)), .int (nI (rq S (-1)))])) := kC _ _ _ g1_kn (by simp; try omega)
    have g2_pr : h2 pr = some ((mr, 0), .inr (5, [.ref ra, .int (nI R.1), .int (nI (tbC R.2 R.1))])) := kC _ _ _ g1_pr (by simp; try omega)
    have g2_sc : h2 sc = some ((6, 0), .inr (7, [.ref b, .int (nI i), .int (nI 0), .int (-1), .int 0, .int 0])) := kC _ _ _ hscC (by simp; try omega)
    have kC2 := kC.K (R := fun y => y = mr2 ∨ y = mr2 + 1) (fun t z => by rcases z with z | z | z <;> simp [z])
    have kk2 : z_K (fun y => y = 1 ∨ y = 2 ∨ y = 6 ∨ y = 8 ∨ y = 10 ∨ y = mr2 ∨ y = mr2 + 1) h h2 := kk1.tr (kC2.mono (fun y z => by omega))
    have nA0 : NdAt g h2 mr2 sp S rec0 := ⟨_, _, _, _, _, nC S⟩
    refine W.eq (g2 := F0 m 35 ls []) rfl ?_
    refine z_new (ci := 9) (fs := [.null, .null, .null, .null, .long 0]) hx hb hts (z_lay i_RecordReader) t_RecordReader t_RecordReader_ok hown (z_in k_496 rfl) (z_in k_497 rfl) (z_in k_18 rfl) hK hw hA rfl (fun j hj => by rcases (show j = 0 ∨ j = 1 ∨ j = 2 ∨ j = 3 ∨ j = 4 by omega) with rfl | rfl | rfl | rfl | rfl <;> rfl) (by first | exact Nat.le_of_ble_eq_true rfl | (dsimp only; omega) | omega) (by first | exact Nat.le_of_ble_eq_true rfl | (dsimp only; omega) | omega) d_X_record_35 (8, 0) (fun rd H n_rd hw => ?_)
    obtain ⟨h3, hh3⟩ : ∃ x9, z_put h2 rd (8, 0) (.inr (9, [.null, .null, .null, .null, .long 0])) = x9 := ⟨_, rfl⟩
    have hw : z_S g A s.heap h3 H locs := by rw [← hh3]; exact hw
    have ne_xo_rd : z_NE xo rd := (show xo ≠ rd from fun z => by have z2 := g2_xo; rw [z, n_rd] at z2; cases z2)
    have ne_tp_rd : z_NE tp rd := (show tp ≠ rd from fun z => by have z2 := g2_tp; rw [z, n_rd] at z2; cases z2)
    have ne_b_rd : z_NE b rd := (show b ≠ rd from fun z => by have z2 := g2_b; rw [z, n_rd] at z2; cases z2)
    have ne_kn_rd : z_NE kn rd := (show kn ≠ rd from fun z => by have z2 := g2_kn; rw [z, n_rd] at z2; cases z2)
    have ne_pr_rd : z_NE pr rd := (show pr ≠ rd from fun z => by have z2 := g2_pr; rw [z, n_rd] at z2; cases z2)
    have ne_sc_rd : z_NE sc rd := (show sc ≠ rd from fun z => by have z2 := g2_sc; rw [z, n_rd] at z2; cases z2)
    have f3_xo : h3 xo = some ((1, 0), .inr (0, [.ref tp, .ref ow, .ref kn, .ref pr, .ref sp])) := by rw [← hh3]; exact z_keepN n_rd g2_xo
    have f3_tp : h3 tp = some ((2, 0), .inr (1, [.ref b, .int (nI 0)])) := by rw [← hh3]; exact z_keepN n_rd g2_tp
    have f3_b : h3 b = some ((3, 0), .inl (g.2.1 0, 4000, .inl f)) := by rw [← hh3]; exact z_keepN n_rd g2_b
    have f3_kn : h3 kn = some ((r, 0), .inr (3, [.ref fa9, .ref ca, .int (nI S.1), .int (nI (cc S)), .int (nI (rq S (-1)))])) := by rw [← hh3]; exact z_keepN n_rd g2_kn
    have f3_pr : h3 pr = some ((mr, 0), .inr (5, [.ref ra, .int (nI R.1), .int (nI (tbC R.2 R.1))])) := by rw [← hh3]; exact z_keepN n_rd g2_pr
    have f3_sc : h3 sc = some ((6, 0), .inr (7, [.ref b, .int (nI i), .int (nI 0), .int (-1), .int 0, .int 0])) := by rw [← hh3]; exact z_keepN n_rd g2_sc
    have f3_rd : h3 rd = some ((8, 0), .inr (9, [.null, .null, .null, .null, .long 0])) := by rw [← hh3]; exact z_put_eq
    have kk3 : z_K (fun y => y = 1 ∨ y = 2 ∨ y = 6 ∨ y = 8 ∨ y = 10 ∨ y = mr2 ∨ y = mr2 + 1) h h3 := kk2.tr (by rw [← hh3]; exact z_K.new n_rd)
    refine lv_dup hx hb d_X_record_38 rfl ?_
    refine lv_aload_n hx hb d_X_record_39 rfl (lv_at hl 0 rfl) ?_
    refine lv_aload_n hx hb d_X_record_40 rfl (lv_at hl 1 rfl) ?_
    refine z_get hx hb hts (z_lay i_X) hown hK hw f3_xo rfl 2 (by decide) (z_in k_148 rfl) (fun _ h9 => h9) rfl d_X_record_41 ?_
    refine lv_aload_n hx hb d_X_record_44 rfl (lv_at hl 1 rfl) ?_
    refine z_get hx hb hts (z_lay i_X) hown hK hw f3_xo rfl 4 (by decide) (z_in k_150 rfl) (fun _ h9 => h9) rfl d_X_record_45 ?_
    refine z_callI (n := 3) (As := [.ref sc, .ref kn, .ref sp]) (rest := [.ref rd]) ⟨hx, hb, hml, hown, hts⟩ (c_RecordReader_init l g h3 f3_rd) (z_in k_500 rfl) (z_in k_18 rfl) (z_in k_498 rfl) (z_in k_499 rfl) rfl (by decide +kernel) ⟨by first | exact Nat.le_of_ble_eq_true rfl | (dsimp only; omega) | omega, by first | exact Nat.le_of_ble_eq_true rfl | (dsimp only; omega) | omega⟩ hK hE hw hA rfl hl.1 (Nat.le_of_ble_eq_true rfl) d_X_record_48 ⟨by first | exact Nat.le_of_ble_eq_true rfl | (dsimp only; omega) | omega, by first | exact Nat.le_of_ble_eq_true rfl | (dsimp only; omega) | omega⟩ rfl (fun r9 h9 H locs hp hw => ?_)
    obtain ⟨tr, r8, hrdC, htrC, k8⟩ := hp
    subst r8
    obtain ⟨h4, e7⟩ : ∃ x9, x9 = h9 := ⟨_, rfl⟩
    subst e7
    have g4_xo : h4 xo = some ((1, 0), .inr (0, [.ref tp, .ref ow, .ref kn, .ref pr, .ref sp])) := k8 _ _ _ f3_xo (by simp; try omega)
    have g4_tp : h4 tp = some ((2, 0), .inr (1, [.ref b, .int (nI 0)])) := k8 _ _ _ f3_tp (by simp; try omega)
    have g4_b : h4 b = some ((3, 0), .inl (g.2.1 0, 4000, .inl f)) := k8 _ _ _ f3_b (by simp; try omega)
    have g4_kn : h4 kn = some ((r, 0), .inr (3, [.ref fa9, .ref ca, .int (nI S.1), .int (nI (cc S)), .int (nI (rq S (-1)))])) := k8 _ _ _ f3_kn (by simp; try omega)
    have g4_pr : h4 pr = some ((mr, 0), .inr (5, [.ref ra, .int (nI R.1), .int (nI (tbC R.2 R.1))])) := k8 _ _ _ f3_pr (by simp; try omega)
    have g4_sc : h4 sc = some ((6, 0), .inr (7, [.ref b, .int (nI i), .int (nI 0), .int (-1), .int 0, .int 0])) := k8 _ _ _ f3_sc (by simp; try omega)
    have kk4 : z_K (fun y => y = 1 ∨ y = 2 ∨ y = 6 ∨ y = 8 ∨ y = 10 ∨ y = mr2 ∨ y = mr2 + 1) h h4 := kk3.tr (k8.mono (fun y z => by simp [z]))
    have nA1 : NdAt g h4 mr2 sp S rec0 := nA0.k (Ro := fun y => y = 8) ((by rw [← hh3]; exact z_K.new n_rd : z_K (fun y => y = 8) h2 h3).tr k8) (by omega) (by omega) (by omega)
    refine W.eq (g2 := F0 m 51 ls [.ref rd]) rfl ?_
    refine lv_astore_n (lv' := [(3, .ref rd), (2, .ref sc), (0, .ref xo), (1, .int (nI i))]) hx hb d_X_record_51 rfl hl (by decide) rfl (fun ls hl => ?_)
    refine lv_aload_n hx hb d_X_record_52 rfl (lv_at hl 0 rfl) ?_
    refine lv_iconst (v := (-1)) hx hb d_X_record_53 (by decide) ?_
    refine lv_iconst (v := 0) hx hb d_X_record_54 (by decide) ?_
    refine lv_iconst (v := 0) hx hb d_X_record_55 (by decide) ?_
    refine z_callV (n := 3) (As := [.int (-1), .int 0, .int 0]) (rest := []) ⟨hx, hb, hml, hown, hts⟩ (c_readMembers0 (t := tT T) (X := X9) l g h4 eX9 (by omega) (by omega) (fun k hk => hT k (by omega)) (by omega) (by omega) (by omega) (by omega) hr0 (hS.k kk4 (by omega) (by omega) (by omega)) hrdC g4_sc g4_b ⟨_, htrC, z_fb0 _, fun k hk => absurd hk (Nat.not_lt_zero _)⟩ nA1) (z_in k_521 rfl) (z_in k_18 rfl) (z_in k_518 rfl) (z_in k_519 rfl) (z_in k_520 rfl) (by decide +kernel) ⟨by first | exact Nat.le_of_ble_eq_true rfl | (dsimp only; omega) | omega, by first | exact Nat.le_of_ble_eq_true rfl | (dsimp only; omega) | omega⟩ hK hE hw hA rfl hrdC rfl hl.1 (Nat.le_of_ble_eq_true rfl) d_X_record_56 ⟨by first | exact Nat.le_of_ble_eq_true rfl | (dsimp only; omega) | omega, by first | exact Nat.le_of_ble_eq_true rfl | (dsimp only; omega) | omega⟩ rfl (fun r9 h9 H locs hp hw => ?_)
    obtain ⟨kk8, ⟨nu8, q8⟩, tr8, nA8, pA8, hp⟩ := hp
    rcases X9 with ⟨F8, R8⟩ | ⟨p8, R8⟩
    · -- members False
      obtain ⟨r8, pf8, f8, w8, d8, e8, g8⟩ := hp
      have nA8 : NdAt g h9 mr2 sp S R8 := nA8
      have pA8 : paOK R8 := pA8
      subst r8
      obtain ⟨h5, e7⟩ : ∃ x9, x9 = h9 := ⟨_, rfl⟩
      subst e7
      have g5_xo : h5 xo = some ((1, 0), .inr (0, [.ref tp, .ref ow, .ref kn, .ref pr, .ref sp])) := kk8 _ _ _ g4_xo (by simp; try omega)
      have g5_tp : h5 tp = some ((2, 0), .inr (1, [.ref b, .int (nI 0)])) := kk8 _ _ _ g4_tp (by simp; try omega)
      have g5_b : h5 b = some ((3, 0), .inl (g.2.1 0, 4000, .inl f)) := kk8 _ _ _ g4_b (by simp; try omega)
      have g5_kn : h5 kn = some ((r, 0), .inr (3, [.ref fa9, .ref ca, .int (nI S.1), .int (nI (cc S)), .int (nI (rq S (-1)))])) := kk8 _ _ _ g4_kn (by simp; try omega)
      have g5_pr : h5 pr = some ((mr, 0), .inr (5, [.ref ra, .int (nI R.1), .int (nI (tbC R.2 R.1))])) := kk8 _ _ _ g4_pr (by simp; try omega)
      have kk5 : z_K (fun y => y = 1 ∨ y = 2 ∨ y = 6 ∨ y = 8 ∨ y = 10 ∨ y = mr2 ∨ y = mr2 + 1) h h5 := kk4.tr (kk8.mono (fun y z => by omega))
      refine W.eq (g2 := F0 m 59 ls [.int 0]) rfl ?_
      refine lv_if_eq (tgt := 69) hx hb d_X_record_59 (by decide) (fun c_59 => ?_) (fun c_59 => ?_)
      · -- 59: True
        have eW : oRecord T S R (nI i) = (nI F8, [], R) := by unfold oRecord; rw [if_neg (not_few hi hT4), if_neg c_23, nI_clamp (show i < 2 ^ 31 by omega), ← eX9]
        refine lv_aload_n hx hb d_X_record_69 rfl (lv_at hl 1 rfl) ?_
        refine z_getN hx hb hts (z_lay i_Scanner) hown hK hw e8 rfl 3 (by decide) hE.nest (z_inN k_194 rfl) (fun _ h9 => h9) rfl d_X_record_70 ?_
        exact z_iret hx hb hr hlocks hw (by obtain ⟨raZ, adZ, txZ, rfZ, tfZ, nZ⟩ := nA8; refine ⟨by rw [eW, g8], ?_, kk5.mono (fun y z => by unfold KXr; omega)⟩; rw [eW]; exact ⟨tp, b, ow, kn, pr, sp, r, mr, mr2, raZ, f, rfZ, _, _, g5_xo, g5_tp, g5_b, ⟨hfb, Nat.zero_le _, fun k hk => absurd hk (Nat.not_lt_zero _)⟩, ⟨hO.k kk5 (by omega) (by omega), hj⟩, ⟨⟨_, _, _, _, _, _, _, hS.k kk5 (by omega) (by omega) (by omega)⟩, hr0, hgr⟩, ⟨⟨_, _, _, _, _, hN.k kk5 (by omega) (by omega) (by omega)⟩, hpa⟩, ⟨nZ.1, nZ.2.1⟩, hmr⟩) (by first | exact Nat.le_of_ble_eq_true rfl | (dsimp only; omega) | omega) (by first | exact Nat.le_of_ble_eq_true rfl | (dsimp only; omega) | omega) d_X_record_73
      · -- 59: False
        exact absurd (by decide) c_59
    · -- members True
      obtain ⟨r8, ⟨f8, w8, d8, e8⟩, le8, le9, le10⟩ := hp
      dsimp only at le8 le9 le10
      have nA8 : NdAt g h9 mr2 sp S R8 := nA8
      have pA8 : paOK R8 := pA8
      subst r8
      obtain ⟨h6, e7⟩ : ∃ x9, x9 = h9 := ⟨_, rfl⟩
      subst e7
      have g6_xo : h6 xo = some ((1, 0), .inr (0, [.ref tp, .ref ow, .ref kn, .ref pr, .ref sp])) := kk8 _ _ _ g4_xo (by simp; try omega)
      have g6_tp : h6 tp = some ((2, 0), .inr (1, [.ref b, .int (nI 0)])) := kk8 _ _ _ g4_tp (by simp; try omega)
      have g6_b : h6 b = some ((3, 0), .inl (g.2.1 0, 4000, .inl f)) := kk8 _ _ _ g4_b (by simp; try omega)
      have g6_kn : h6 kn = some ((r, 0), .inr (3, [.ref fa9, .ref ca, .int (nI S.1), .int (nI (cc S)), .int (nI (rq S (-1)))])) := kk8 _ _ _ g4_kn (by simp; try omega)
      have g6_pr : h6 pr = some ((mr, 0), .inr (5, [.ref ra, .int (nI R.1), .int (nI (tbC R.2 R.1))])) := kk8 _ _ _ g4_pr (by simp; try omega)
      have kk6 : z_K (fun y => y = 1 ∨ y = 2 ∨ y = 6 ∨ y = 8 ∨ y = 10 ∨ y = mr2 ∨ y = mr2 + 1) h h6 := kk4.tr (kk8.mono (fun y z => by omega))
      have sk8 := sk_le (t := tT T) le8
      refine W.eq (g2 := F0 m 59 ls [.int 1]) rfl ?_
      refine lv_if_eq (tgt := 69) hx hb d_X_record_59 (by decide) (fun c_59 => ?_) (fun c_59 => ?_)
      · -- 59: True
        exact absurd c_59 (by decide)
      · -- 59: False
        refine lv_aload_n hx hb d_X_record_62 rfl (lv_at hl 1 rfl) ?_
        refine z_callV (n := 0) (As := []) (rest := []) ⟨hx, hb, hml, hown, hts⟩ (c_Scanner_takeEnd (t := tT T) l g h6 e8 g6_b (by omega) (by omega) (fun k hk => hT k (by omega)) (by omega)) (z_in k_609 rfl) (z_in k_8 rfl) (z_in k_606 rfl) (z_in k_607 rfl) (z_in k_608 rfl) (by decide +kernel) ⟨by first | exact Nat.le_of_ble_eq_true rfl | (dsimp only; omega) | omega, by first | exact Nat.le_of_ble_eq_true rfl | (dsimp only; omega) | omega⟩ hK hE hw hA rfl e8 rfl hl.1 (Nat.le_of_ble_eq_true rfl) d_X_record_63 ⟨by first | exact Nat.le_of_ble_eq_true rfl | (dsimp only; omega) | omega, by first | exact Nat.le_of_ble_eq_true rfl | (dsimp only; omega) | omega⟩ rfl (fun r9 h9 H locs hp hw => ?_)
        unfold tEn at hp
        by_cases te : bt (tT T) i (sk (tT T) i p8) = -1
        · -- end True
          rw [if_pos te] at hp
          obtain ⟨r8, hh7⟩ := hp
          subst r8
          obtain ⟨h7, e6⟩ : ∃ x9, x9 = h9 := ⟨_, rfl⟩
          subst e6
          have f7_xo : h7 xo = some ((1, 0), .inr (0, [.ref tp, .ref ow, .ref kn, .ref pr, .ref sp])) := by rw [← hh7]; exact z_keep e8 g6_xo (z_t1 (by decide))
          have f7_tp : h7 tp = some ((2, 0), .inr (1, [.ref b, .int (nI 0)])) := by rw [← hh7]; exact z_keep e8 g6_tp (z_t1 (by decide))
          have f7_b : h7 b = some ((3, 0), .inl (g.2.1 0, 4000, .inl f)) := by rw [← hh7]; exact z_keep e8 g6_b (z_t1 (by decide))
          have f7_kn : h7 kn = some ((r, 0), .inr (3, [.ref fa9, .ref ca, .int (nI S.1), .int (nI (cc S)), .int (nI (rq S (-1)))])) := by rw [← hh7]; exact z_keep e8 g6_kn (by first | decide | (refine z_t1 ?_; omega) | (refine z_t2 ?_; omega))
          have f7_pr : h7 pr = some ((mr, 0), .inr (5, [.ref ra, .int (nI R.1), .int (nI (tbC R.2 R.1))])) := by rw [← hh7]; exact z_keep e8 g6_pr (by first | decide | (refine z_t1 ?_; omega) | (refine z_t2 ?_; omega))
          have f7_sc : h7 sc = some ((6, 0), .inr (7, [.ref b, .int (nI i), .int (nI (sk (tT T) i p8)), .int f8, .int w8, .int d8])) := by rw [← hh7]; exact z_put_eq
          have kk7 : z_K (fun y => y = 1 ∨ y = 2 ∨ y = 6 ∨ y = 8 ∨ y = 10 ∨ y = mr2 ∨ y = mr2 + 1) h h7 := kk6.tr (by rw [← hh7]; exact z_K.put e8 (by first | decide | simp | omega))
          have nA9 : NdAt g h7 mr2 sp S R8 := nA8.k (Ro := fun y => y = 6) (by rw [← hh7]; exact z_K.put e8 rfl) (by omega) (by omega) (by omega)
          refine W.eq (g2 := F0 m 66 ls [.int 1]) rfl ?_
          refine lv_if_ne (tgt := 74) hx hb d_X_record_66 (by decide) (fun c_66 => ?_) (fun c_66 => ?_)
          · -- 66: True
            refine lv_aload_n hx hb d_X_record_74 rfl (lv_at hl 2 rfl) ?_
            refine z_get hx hb hts (z_lay i_X) hown hK hw f7_xo rfl 3 (by decide) (z_in k_149 rfl) (fun _ h9 => h9) rfl d_X_record_75 ?_
            refine lv_astore (lv' := [(4, .ref pr), (3, .ref rd), (2, .ref sc), (0, .ref xo), (1, .int (nI i))]) hx hb d_X_record_78 hl (by decide) rfl (fun ls hl => ?_)
            refine lv_aload_n hx hb d_X_record_80 rfl (lv_at hl 3 rfl) ?_
            refine lv_aload_n hx hb d_X_record_81 rfl (lv_at hl 3 rfl) ?_
            refine z_get hx hb hts (z_lay i_X) hown hK hw f7_xo rfl 4 (by decide) (z_in k_150 rfl) (fun _ h9 => h9) rfl d_X_record_82 ?_
            refine z_putf (ty := .object "SchemaRecords$NodeRow") hx hb hts (z_lay i_X) t_X t_X_ok n_X hown hK hw f7_xo rfl 3 (by decide) (z_in k_149 rfl) (fun _ h9 => h9) rfl (by decide +kernel) rfl rfl (Nat.le_of_ble_eq_true rfl) d_X_record_85 (fun H locs hw => ?_)
            obtain ⟨h8, hh8⟩ : ∃ x9, z_put h7 xo (1, 0) (.inr (0, [.ref tp, .ref ow, .ref kn, .ref sp, .ref sp])) = x9 := ⟨_, rfl⟩
            have hw : z_S g A s.heap h8 H locs := by rw [← hh8]; exact hw
            have f8_xo : h8 xo = some ((1, 0), .inr (0, [.ref tp, .ref ow, .ref kn, .ref sp, .ref sp])) := by rw [← hh8]; exact z_put_eq
            have f8_tp : h8 tp = some ((2, 0), .inr (1, [.ref b, .int (nI 0)])) := by rw [← hh8]; exact z_keep f7_xo f7_tp (z_t1 (by decide))
            have f8_b : h8 b = some ((3, 0), .inl (g.2.1 0, 4000, .inl f)) := by rw [← hh8]; exact z_keep f7_xo f7_b (z_t1 (by decide))
            have f8_kn : h8 kn = some ((r, 0), .inr (3, [.ref fa9, .ref ca, .int (nI S.1), .int (nI (cc S)), .int (nI (rq S (-1)))])) := by rw [← hh8]; exact z_keep f7_xo f7_kn (by first | decide | (refine z_t1 ?_; omega) | (refine z_t2 ?_; omega))
            have f8_pr : h8 pr = some ((mr, 0), .inr (5, [.ref ra, .int (nI R.1), .int (nI (tbC R.2 R.1))])) := by rw [← hh8]; exact z_keep f7_xo f7_pr (by first | decide | (refine z_t1 ?_; omega) | (refine z_t2 ?_; omega))
            have f8_sc : h8 sc = some ((6, 0), .inr (7, [.ref b, .int (nI i), .int (nI (sk (tT T) i p8)), .int f8, .int w8, .int d8])) := by rw [← hh8]; exact z_keep f7_xo f7_sc (z_t1 (by decide))
            have kk8 : z_K (fun y => y = 1 ∨ y = 2 ∨ y = 6 ∨ y = 8 ∨ y = 10 ∨ y = mr2 ∨ y = mr2 + 1) h h8 := kk7.tr (by rw [← hh8]; exact z_K.put f7_xo (by first | decide | simp | omega))
            refine lv_aload_n hx hb d_X_record_88 rfl (lv_at hl 3 rfl) ?_
            refine lv_aload hx hb d_X_record_89 (lv_at hl 0 rfl) ?_
            refine z_putf (ty := .object "SchemaRecords$NodeRow") hx hb hts (z_lay i_X) t_X t_X_ok n_X hown hK hw f8_xo rfl 4 (by decide) (z_in k_150 rfl) (fun _ h9 => h9) rfl (by decide +kernel) rfl rfl (Nat.le_of_ble_eq_true rfl) d_X_record_91 (fun H locs hw => ?_)
            obtain ⟨h9, hh9⟩ : ∃ x9, z_put h8 xo (1, 0) (.inr (0, [.ref tp, .ref ow, .ref kn, .ref sp, .ref pr])) = x9 := ⟨_, rfl⟩
            have hw : z_S g A s.heap h9 H locs := by rw [← hh9]; exact hw
            have f9_xo : h9 xo = some ((1, 0), .inr (0, [.ref tp, .ref ow, .ref kn, .ref sp, .ref pr])) := by rw [← hh9]; exact z_put_eq
            have f9_tp : h9 tp = some ((2, 0), .inr (1, [.ref b, .int (nI 0)])) := by rw [← hh9]; exact z_keep f8_xo f8_tp (z_t1 (by decide))
            have f9_b : h9 b = some ((3, 0), .inl (g.2.1 0, 4000, .inl f)) := by rw [← hh9]; exact z_keep f8_xo f8_b (z_t1 (by decide))
            have f9_kn : h9 kn = some ((r, 0), .inr (3, [.ref fa9, .ref ca, .int (nI S.1), .int (nI (cc S)), .int (nI (rq S (-1)))])) := by rw [← hh9]; exact z_keep f8_xo f8_kn (by first | decide | (refine z_t1 ?_; omega) | (refine z_t2 ?_; omega))
            have f9_pr : h9 pr = some ((mr, 0), .inr (5, [.ref ra, .int (nI R.1), .int (nI (tbC R.2 R.1))])) := by rw [← hh9]; exact z_keep f8_xo f8_pr (by first | decide | (refine z_t1 ?_; omega) | (refine z_t2 ?_; omega))
            have f9_sc : h9 sc = some ((6, 0), .inr (7, [.ref b, .int (nI i), .int (nI (sk (tT T) i p8)), .int f8, .int w8, .int d8])) := by rw [← hh9]; exact z_keep f8_xo f8_sc (z_t1 (by decide))
            have kk9 : z_K (fun y => y = 1 ∨ y = 2 ∨ y = 6 ∨ y = 8 ∨ y = 10 ∨ y = mr2 ∨ y = mr2 + 1) h h9 := kk8.tr (by rw [← hh9]; exact z_K.put f8_xo (by first | decide | simp | omega))
            have kP : z_K (fun y => y = 1) h7 h9 := (by rw [← hh8]; exact z_K.put f7_xo rfl : z_K (fun y => y = 1) h7 h8).tr (by rw [← hh9]; exact z_K.put f8_xo rfl)
            have eW : oRecord T S R (nI i) = (-1, [], R8) := by unfold oRecord; rw [if_neg (not_few hi hT4), if_neg c_23, nI_clamp (show i < 2 ^ 31 by omega), ← eX9]; dsimp only; rw [if_pos te]
            refine lv_iconst (v := (-1)) hx hb d_X_record_94 (by decide) ?_
            exact z_iret hx hb hr hlocks hw (by refine ⟨by rw [eW], ?_, kk9.mono (fun y z => by unfold KXr; omega)⟩; rw [eW]; exact ⟨tp, b, ow, kn, sp, pr, r, mr2, mr, ra, f, rf, _, _, f9_xo, f9_tp, f9_b, ⟨hfb, Nat.zero_le _, fun k hk => absurd hk (Nat.not_lt_zero _)⟩, ⟨hO.k kk9 (by omega) (by omega), hj⟩, ⟨⟨_, _, _, _, _, _, _, hS.k kk9 (by omega) (by omega) (by omega)⟩, hr0, hgr⟩, ⟨nA9.k (Ro := fun y => y = 1) kP (by omega) (by omega) (by omega), pA8⟩, ⟨(hN.k kk9 (by omega) (by omega) (by omega)).1, (hN.k kk9 (by omega) (by omega) (by omega)).2.1⟩, by omega⟩) (by first | exact Nat.le_of_ble_eq_true rfl | (dsimp only; omega) | omega) (by first | exact Nat.le_of_ble_eq_true rfl | (dsimp only; omega) | omega) d_X_record_95
          · -- 66: False
            exact absurd c_66 (by decide)
        · -- end False
          rw [if_neg te] at hp
          obtain ⟨r8, hh10⟩ := hp
          subst r8
          obtain ⟨h10, e6⟩ : ∃ x9, x9 = h9 := ⟨_, rfl⟩
          subst e6
          have f10_xo : h10 xo = some ((1, 0), .inr (0, [.ref tp, .ref ow, .ref kn, .ref pr, .ref sp])) := by rw [← hh10]; exact z_keep e8 g6_xo (z_t1 (by decide))
          have f10_tp : h10 tp = some ((2, 0), .inr (1, [.ref b, .int (nI 0)])) := by rw [← hh10]; exact z_keep e8 g6_tp (z_t1 (by decide))
          have f10_b : h10 b = some ((3, 0), .inl (g.2.1 0, 4000, .inl f)) := by rw [← hh10]; exact z_keep e8 g6_b (z_t1 (by decide))
          have f10_kn : h10 kn = some ((r, 0), .inr (3, [.ref fa9, .ref ca, .int (nI S.1), .int (nI (cc S)), .int (nI (rq S (-1)))])) := by rw [← hh10]; exact z_keep e8 g6_kn (by first | decide | (refine z_t1 ?_; omega) | (refine z_t2 ?_; omega))
          have f10_pr : h10 pr = some ((mr, 0), .inr (5, [.ref ra, .int (nI R.1), .int (nI (tbC R.2 R.1))])) := by rw [← hh10]; exact z_keep e8 g6_pr (by first | decide | (refine z_t1 ?_; omega) | (refine z_t2 ?_; omega))
          have f10_sc : h10 sc = some ((6, 0), .inr (7, [.ref b, .int (nI i), .int (nI (sk (tT T) i p8)), .int (nI (sk (tT T) i p8)), .int w8, .int d8])) := by rw [← hh10]; exact z_put_eq
          have kk10 : z_K (fun y => y = 1 ∨ y = 2 ∨ y = 6 ∨ y = 8 ∨ y = 10 ∨ y = mr2 ∨ y = mr2 + 1) h h10 := kk6.tr (by rw [← hh10]; exact z_K.put e8 (by first | decide | simp | omega))
          have nA9 : NdAt g h10 mr2 sp S R8 := nA8.k (Ro := fun y => y = 6) (by rw [← hh10]; exact z_K.put e8 rfl) (by omega) (by omega) (by omega)
          refine W.eq (g2 := F0 m 66 ls [.int 0]) rfl ?_
          refine lv_if_ne (tgt := 74) hx hb d_X_record_66 (by decide) (fun c_66 => ?_) (fun c_66 => ?_)
          · -- 66: True
            exact absurd (by decide) c_66
          · -- 66: False
            have eW : oRecord T S R (nI i) = (nI (sk (tT T) i p8), [], R) := by unfold oRecord; rw [if_neg (not_few hi hT4), if_neg c_23, nI_clamp (show i < 2 ^ 31 by omega), ← eX9]; dsimp only; rw [if_neg te]
            refine lv_aload_n hx hb d_X_record_69 rfl (lv_at hl 1 rfl) ?_
            refine z_getN hx hb hts (z_lay i_Scanner) hown hK hw f10_sc rfl 3 (by decide) hE.nest (z_inN k_194 rfl) (fun _ h9 => h9) rfl d_X_record_70 ?_
            exact z_iret hx hb hr hlocks hw (by obtain ⟨raZ, adZ, txZ, rfZ, tfZ, nZ⟩ := nA9; refine ⟨by rw [eW], ?_, kk10.mono (fun y z => by unfold KXr; omega)⟩; rw [eW]; exact ⟨tp, b, ow, kn, pr, sp, r, mr, mr2, raZ, f, rfZ, _, _, f10_xo, f10_tp, f10_b, ⟨hfb, Nat.zero_le _, fun k hk => absurd hk (Nat.not_lt_zero _)⟩, ⟨hO.k kk10 (by omega) (by omega), hj⟩, ⟨⟨_, _, _, _, _, _, _, hS.k kk10 (by omega) (by omega) (by omega)⟩, hr0, hgr⟩, ⟨⟨_, _, _, _, _, hN.k kk10 (by omega) (by omega) (by omega)⟩, hpa⟩, ⟨nZ.1, nZ.2.1⟩, hmr⟩) (by first | exact Nat.le_of_ble_eq_true rfl | (dsimp only; omega) | omega) (by first | exact Nat.le_of_ble_eq_true rfl | (dsimp only; omega) | omega) d_X_record_73
  · -- 23: False
    have c_23 : S.1 = 0 := (nI_eq (a := S.1) (b := 0) (by omega) (by omega)).mp c_23
    have eW : oRecord T S R (nI i) = (0, [], R) := by unfold oRecord; rw [if_neg (not_few hi hT4), if_pos c_23]
    refine lv_iconst (v := 0) hx hb d_X_record_26 (by decide) ?_
    exact z_iret hx hb hr hlocks hw (by refine ⟨by rw [eW], ?_, kk1.mono (fun y z => by unfold KXr; omega)⟩; rw [eW]; exact ⟨tp, b, ow, kn, pr, sp, r, mr, mr2, ra2, f, rf2, a2, c2, g1_xo, htpC, g1_b, ⟨hfb, Nat.zero_le _, fun k hk => absurd hk (Nat.not_lt_zero _)⟩, ⟨hO.k kk1 (by omega) (by omega), hj⟩, ⟨⟨_, _, _, _, _, _, _, hS.k kk1 (by omega) (by omega) (by omega)⟩, hr0, hgr⟩, ⟨⟨_, _, _, _, _, hN.k kk1 (by omega) (by omega) (by omega)⟩, hpa⟩, ⟨g1_sp, g1_ra2⟩, hmr⟩) (by first | exact Nat.le_of_ble_eq_true rfl | (dsimp only; omega) | omega) (by first | exact Nat.le_of_ble_eq_true rfl | (dsimp only; omega) | omega) d_X_record_27

def oWrite (S : Sch) (R : Rec) : Int32 × List Nat := if oIsWhole S R = true then (nI (wrD S R 17 0).2.length, (wrD S R 17 0).2) else (-1, [])
theorem jf_zero (j : Nat) : jf j 0 = j := by
  unfold jf
  rcases e : 8 - j with _ | k
  · rfl
  · simp only [jfR]; rw [if_pos (Nat.zero_le _)]
theorem OutB.nil {g : z_G} {h : z_H} {ow ob n j : Nat} {f : Nat → Int32} (h1 : h ow = some ((4, 0), .inr (2, [.ref ob, .int 0]))) (h2 : h ob = some ((5, 0), .inl (g.2.1 0, n, .inl f))) (hn : n = 1024 * 2 ^ j) (hf : z_fb f n) : OutB g h ow j [] := by
  have e : capj j ([] : List Nat).length = n := by unfold capj; show 1024 * 2 ^ jf j 0 = n; rw [jf_zero, hn]
  exact ⟨ob, f, h1, by rw [e]; exact h2, Nat.zero_le _, by rw [e]; exact hf, fun k hk => absurd hk (Nat.not_lt_zero _)⟩

theorem c_putMembers0 (l : Launch) (g : z_G) (h : z_H) {wr q nw ow j r : Nat} {S : Sch} {fa9 ca : Nat} {adS na : Nat → Nat} {ff : Nat → Option Nat} {cf : Nat → Int32} {nf : Nat → Nat → Int32} {mr : Nat} {R : Rec} {ra : Nat} {ad tx : Nat → Nat} {rf : Nat → Option Nat} {tf : Nat → Nat → Int32} (hj : j ≤ 8) (hfo : fiO2 S R) (hr0 : 100 ≤ r) (hm2 : 12 ≤ mr) (hm : mr < 60) (h1 : SchP g h r q S fa9 ca adS na ff cf nf) (h2 : NdP g h mr nw S R ra ad tx rf tf) (h3 : h wr = some ((9, 0), .inr (10, [.ref q, .ref nw, .ref ow]))) (h4 : OutB g h ow j []) (h5 : 0 < R.1) (h6 : (wrD S R 17 0).2.length ≤ 262144) : z_C l y_RecordWriter_putMembers prog_7_method_2_code 9 (Option.some Jvm.ClassFile.FieldType.int) 180 5400 (jf j (wrD S R 17 0).2.length - j) (slj j (wrD S R 17 0).2.length - slj j 0) g [.ref wr, .int 0, .int 0] h (fun x h1 => x = some (.int (nI (wrD S R 17 0).1)) ∧ OutB g h1 ow j (wrD S R 17 0).2 ∧ z_K (fun y => y = 4 ∨ y = 5) h h1) := by
  have := c_putMembers l g (wr := wr) hj hfo hr0 hm2 hm 17 0 (by omega) h [] 0 h1 h2 h3 h4 h5 (by simpa using h6)
  rw [List.nil_append] at this
  rw [show jf j ([] : List Nat).length = j from jf_zero j] at this
  exact this

set_option maxHeartbeats 300000 in
set_option maxRecDepth 100000 in
theorem x_write (l : Launch) (g : z_G) (h : z_H) {xo : Nat} {T : List Nat} {S : Sch} {R : Rec} {O : List Nat} {j : Nat}   (hX : XAt g h xo T S R O j) (hfo : fiOK S R) (hf2 : fiO2 S R) (hR1 : 0 < R.1) (hwl : (wrD S R 17 0).2.length ≤ 262144) : z_C l y_X_write prog_1_method_18_code 1 (Option.some Jvm.ClassFile.FieldType.int) 185 5600 (1 + (jf (jf j O.length) (wrD S R 17 0).2.length - jf j O.length)) (3 + (slj (jf j O.length) (wrD S R 17 0).2.length - slj j O.length)) g [.ref xo] h (fun x h1 => XPt g h x (.int (oWrite S R).1) h1 xo T S R (oWrite S R).2 (jf j O.length)) := by
  refine z_C.of (by decide) (Nat.le_of_ble_eq_true rfl) (fun pg en s m below meth cd A ls hx hb hml hr hts hown hlocks hnm hK hE hA hw hl => ?_)
  have hl : lv_has ls 1 [(0, .ref xo)] := hl
  obtain ⟨tp, b, ow, kn, pr, sp, r, mr, mr2, ra2, f, rf2, a2, c2, hxo, htp0, hb0, ⟨hfb, hT4, hT⟩, ⟨hO, hj⟩, ⟨⟨fa9, ca, adS, na, ff, cf, nf, hS⟩, hr0, hgr⟩, ⟨⟨ra, ad, tx, rf, tf, hN⟩, hpa⟩, ⟨hsp, hra2⟩, hmr⟩ := id hX
  have hkn := hS.1
  have hpr := hN.1
  have hs8 : S.1 ≤ 128 := hS.2.2.2.2.2.2.2.1
  have hcc8 : cc S ≤ 64 := hS.2.2.2.2.2.2.2.2
  have hR2 : R.1 ≤ 2000 := hN.2.2.2.2.2.1
  obtain ⟨ob, fo, how, hob, ho1, ho2, ho3⟩ := hO
  have jl8 := (jf_le O.length hj).2
  have jz := jf_zero (jf j O.length)
  obtain ⟨J9, eJ⟩ : ∃ x, x = jf (jf j O.length) (wrD S R 17 0).2.length := ⟨_, rfl⟩
  obtain ⟨L9, eL⟩ : ∃ x, x = slj (jf j O.length) (wrD S R 17 0).2.length := ⟨_, rfl⟩
  have eL0 : slj (jf j O.length) 0 = slj j O.length := by unfold slj; rw [jz]
  have kk0 : z_K (fun y => y = 4 ∨ y = 5 ∨ y = 9) h h := z_K.rf
  refine lv_aload_n hx hb d_X_write_0 rfl (lv_at hl 0 rfl) ?_
  refine z_get hx hb hts (z_lay i_X) hown hK hw hxo rfl 1 (by decide) (z_in k_147 rfl) (fun _ h9 => h9) rfl d_X_write_1 ?_
  refine z_callV (n := 0) (As := []) (rest := []) ⟨hx, hb, hml, hown, hts⟩ (c_ByteRow_clear l g h how) (z_in k_681 rfl) (z_in k_3 rfl) (z_in k_678 rfl) (z_in k_679 rfl) (z_in k_680 rfl) (by decide +kernel) ⟨by first | exact Nat.le_of_ble_eq_true rfl | (dsimp only; omega) | omega, by first | exact Nat.le_of_ble_eq_true rfl | (dsimp only; omega) | omega⟩ hK hE hw hA rfl how rfl hl.1 (Nat.le_of_ble_eq_true rfl) d_X_write_4 ⟨by first | exact Nat.le_of_ble_eq_true rfl | (dsimp only; omega) | omega, by first | exact Nat.le_of_ble_eq_true rfl | (dsimp only; omega) | omega⟩ rfl (fun r9 h9 H locs hp hw => ?_)
  obtain ⟨r8, hh1⟩ := hp
  subst r8
  obtain ⟨h1, e8⟩ : ∃ x9, x9 = h9 := ⟨_, rfl⟩
  subst e8
  have f1_xo : h1 xo = some ((1, 0), .inr (0, [.ref tp, .ref ow, .ref kn, .ref pr, .ref sp])) := by rw [← hh1]; exact z_keep how hxo (z_t1 (by decide))
  have f1_tp : h1 tp = some ((2, 0), .inr (1, [.ref b, .int (nI T.length)])) := by rw [← hh1]; exact z_keep how htp0 (z_t1 (by decide))
  have f1_b : h1 b = some ((3, 0), .inl (g.2.1 0, 4000, .inl f)) := by rw [← hh1]; exact z_keep how hb0 (z_t1 (by decide))
  have f1_kn : h1 kn = some ((r, 0), .inr (3, [.ref fa9, .ref ca, .int (nI S.1), .int (nI (cc S)), .int (nI (rq S (-1)))])) := by rw [← hh1]; exact z_keep how hkn (by first | decide | (refine z_t1 ?_; omega) | (refine z_t2 ?_; omega))
  have f1_pr : h1 pr = some ((mr, 0), .inr (5, [.ref ra, .int (nI R.1), .int (nI (tbC R.2 R.1))])) := by rw [← hh1]; exact z_keep how hpr (by first | decide | (refine z_t1 ?_; omega) | (refine z_t2 ?_; omega))
  have f1_ow : h1 ow = some ((4, 0), .inr (2, [.ref ob, .int 0])) := by rw [← hh1]; exact z_put_eq
  have f1_ob : h1 ob = some ((5, 0), .inl (g.2.1 0, capj j O.length, .inl fo)) := by rw [← hh1]; exact z_keep how hob (z_t1 (by decide))
  have kk1 : z_K (fun y => y = 4 ∨ y = 5 ∨ y = 9) h h1 := kk0.tr (by rw [← hh1]; exact z_K.put how (by first | decide | simp | omega))
  have o0 : OutB g h1 ow (jf j O.length) [] := OutB.nil f1_ow f1_ob rfl ho2
  have X0 : XAt g h1 xo T S R [] (jf j O.length) := ⟨tp, b, ow, kn, pr, sp, r, mr, mr2, ra2, f, rf2, a2, c2, f1_xo, f1_tp, f1_b, ⟨hfb, hT4, hT⟩, ⟨o0, jl8⟩, ⟨⟨_, _, _, _, _, _, _, hS.k kk1 (by omega) (by omega) (by omega)⟩, hr0, hgr⟩, ⟨⟨_, _, _, _, _, hN.k kk1 (by omega) (by omega) (by omega)⟩, hpa⟩, ⟨kk1 _ _ _ hsp (by dsimp only; omega), kk1 _ _ _ hra2 (by dsimp only; omega)⟩, hmr⟩
  refine W.eq (g2 := F0 m 7 ls []) rfl ?_
  refine lv_aload_n hx hb d_X_write_7 rfl (lv_at hl 0 rfl) ?_
  refine z_callV (n := 0) (As := []) (rest := []) ⟨hx, hb, hml, hown, hts⟩ (x_isWhole l g h1 X0 hfo) (z_in k_665 rfl) (z_in k_1 rfl) (z_in k_682 rfl) (z_in k_663 rfl) (z_in k_664 rfl) (by decide +kernel) ⟨by first | exact Nat.le_of_ble_eq_true rfl | (dsimp only; omega) | omega, by first | exact Nat.le_of_ble_eq_true rfl | (dsimp only; omega) | omega⟩ hK hE hw hA rfl f1_xo rfl hl.1 (Nat.le_of_ble_eq_true rfl) d_X_write_8 ⟨by first | exact Nat.le_of_ble_eq_true rfl | (dsimp only; omega) | omega, by first | exact Nat.le_of_ble_eq_true rfl | (dsimp only; omega) | omega⟩ rfl (fun r9 h9 H locs hp hw => ?_)
  obtain ⟨r8, h8⟩ := hp
  subst r8
  subst h8
  refine W.eq (g2 := F0 m 11 ls [.int (zb (oIsWhole S R))]) rfl ?_
  refine lv_if_ne (tgt := 16) hx hb d_X_write_11 (by decide) (fun c_11 => ?_) (fun c_11 => ?_)
  · -- 11: True
    have c_11 : (oIsWhole S R) = true := zb_t c_11
    refine z_new (ci := 10) (fs := [.null, .null, .null]) hx hb hts (z_lay i_RecordWriter) t_RecordWriter t_RecordWriter_ok hown (z_in k_683 rfl) (z_in k_684 rfl) (z_in k_19 rfl) hK hw hA rfl (fun j hj => by rcases (show j = 0 ∨ j = 1 ∨ j = 2 by omega) with rfl | rfl | rfl <;> rfl) (by first | exact Nat.le_of_ble_eq_true rfl | (dsimp only; omega) | omega) (by first | exact Nat.le_of_ble_eq_true rfl | (dsimp only; omega) | omega) d_X_write_16 (9, 0) (fun wr H n_wr hw => ?_)
    obtain ⟨h2, hh2⟩ : ∃ x9, z_put h1 wr (9, 0) (.inr (10, [.null, .null, .null])) = x9 := ⟨_, rfl⟩
    have hw : z_S g A s.heap h2 H locs := by rw [← hh2]; exact hw
    have ne_xo_wr : z_NE xo wr := (show xo ≠ wr from fun z => by have z2 := f1_xo; rw [z, n_wr] at z2; cases z2)
    have ne_tp_wr : z_NE tp wr := (show tp ≠ wr from fun z => by have z2 := f1_tp; rw [z, n_wr] at z2; cases z2)
    have ne_b_wr : z_NE b wr := (show b ≠ wr from fun z => by have z2 := f1_b; rw [z, n_wr] at z2; cases z2)
    have ne_kn_wr : z_NE kn wr := (show kn ≠ wr from fun z => by have z2 := f1_kn; rw [z, n_wr] at z2; cases z2)
    have ne_pr_wr : z_NE pr wr := (show pr ≠ wr from fun z => by have z2 := f1_pr; rw [z, n_wr] at z2; cases z2)
    have ne_ow_wr : z_NE ow wr := (show ow ≠ wr from fun z => by have z2 := f1_ow; rw [z, n_wr] at z2; cases z2)
    have ne_ob_wr : z_NE ob wr := (show ob ≠ wr from fun z => by have z2 := f1_ob; rw [z, n_wr] at z2; cases z2)
    have f2_xo : h2 xo = some ((1, 0), .inr (0, [.ref tp, .ref ow, .ref kn, .ref pr, .ref sp])) := by rw [← hh2]; exact z_keepN n_wr f1_xo
    have f2_tp : h2 tp = some ((2, 0), .inr (1, [.ref b, .int (nI T.length)])) := by rw [← hh2]; exact z_keepN n_wr f1_tp
    have f2_b : h2 b = some ((3, 0), .inl (g.2.1 0, 4000, .inl f)) := by rw [← hh2]; exact z_keepN n_wr f1_b
    have f2_kn : h2 kn = some ((r, 0), .inr (3, [.ref fa9, .ref ca, .int (nI S.1), .int (nI (cc S)), .int (nI (rq S (-1)))])) := by rw [← hh2]; exact z_keepN n_wr f1_kn
    have f2_pr : h2 pr = some ((mr, 0), .inr (5, [.ref ra, .int (nI R.1), .int (nI (tbC R.2 R.1))])) := by rw [← hh2]; exact z_keepN n_wr f1_pr
    have f2_ow : h2 ow = some ((4, 0), .inr (2, [.ref ob, .int 0])) := by rw [← hh2]; exact z_keepN n_wr f1_ow
    have f2_ob : h2 ob = some ((5, 0), .inl (g.2.1 0, capj j O.length, .inl fo)) := by rw [← hh2]; exact z_keepN n_wr f1_ob
    have f2_wr : h2 wr = some ((9, 0), .inr (10, [.null, .null, .null])) := by rw [← hh2]; exact z_put_eq
    have kk2 : z_K (fun y => y = 4 ∨ y = 5 ∨ y = 9) h h2 := kk1.tr (by rw [← hh2]; exact z_K.new n_wr)
    refine lv_dup hx hb d_X_write_19 rfl ?_
    refine lv_aload_n hx hb d_X_write_20 rfl (lv_at hl 0 rfl) ?_
    refine z_get hx hb hts (z_lay i_X) hown hK hw f2_xo rfl 2 (by decide) (z_in k_148 rfl) (fun _ h9 => h9) rfl d_X_write_21 ?_
    refine lv_aload_n hx hb d_X_write_24 rfl (lv_at hl 0 rfl) ?_
    refine z_get hx hb hts (z_lay i_X) hown hK hw f2_xo rfl 3 (by decide) (z_in k_149 rfl) (fun _ h9 => h9) rfl d_X_write_25 ?_
    refine lv_aload_n hx hb d_X_write_28 rfl (lv_at hl 0 rfl) ?_
    refine z_get hx hb hts (z_lay i_X) hown hK hw f2_xo rfl 1 (by decide) (z_in k_147 rfl) (fun _ h9 => h9) rfl d_X_write_29 ?_
    refine z_callI (n := 3) (As := [.ref kn, .ref pr, .ref ow]) (rest := [.ref wr]) ⟨hx, hb, hml, hown, hts⟩ (c_RecordWriter_init l g h2 f2_wr) (z_in k_687 rfl) (z_in k_19 rfl) (z_in k_685 rfl) (z_in k_686 rfl) rfl (by decide +kernel) ⟨by first | exact Nat.le_of_ble_eq_true rfl | (dsimp only; omega) | omega, by first | exact Nat.le_of_ble_eq_true rfl | (dsimp only; omega) | omega⟩ hK hE hw hA rfl hl.1 (Nat.le_of_ble_eq_true rfl) d_X_write_32 ⟨by first | exact Nat.le_of_ble_eq_true rfl | (dsimp only; omega) | omega, by first | exact Nat.le_of_ble_eq_true rfl | (dsimp only; omega) | omega⟩ rfl (fun r9 h9 H locs hp hw => ?_)
    obtain ⟨r8, hh3⟩ := hp
    subst r8
    obtain ⟨h3, e8⟩ : ∃ x9, x9 = h9 := ⟨_, rfl⟩
    subst e8
    have f3_xo : h3 xo = some ((1, 0), .inr (0, [.ref tp, .ref ow, .ref kn, .ref pr, .ref sp])) := by rw [← hh3]; exact (z_put_ne ne_xo_wr).trans f2_xo
    have f3_tp : h3 tp = some ((2, 0), .inr (1, [.ref b, .int (nI T.length)])) := by rw [← hh3]; exact (z_put_ne ne_tp_wr).trans f2_tp
    have f3_b : h3 b = some ((3, 0), .inl (g.2.1 0, 4000, .inl f)) := by rw [← hh3]; exact (z_put_ne ne_b_wr).trans f2_b
    have f3_kn : h3 kn = some ((r, 0), .inr (3, [.ref fa9, .ref ca, .int (nI S.1), .int (nI (cc S)), .int (nI (rq S (-1)))])) := by rw [← hh3]; exact (z_put_ne ne_kn_wr).trans f2_kn
    have f3_pr : h3 pr = some ((mr, 0), .inr (5, [.ref ra, .int (nI R.1), .int (nI (tbC R.2 R.1))])) := by rw [← hh3]; exact (z_put_ne ne_pr_wr).trans f2_pr
    have f3_ow : h3 ow = some ((4, 0), .inr (2, [.ref ob, .int 0])) := by rw [← hh3]; exact (z_put_ne ne_ow_wr).trans f2_ow
    have f3_ob : h3 ob = some ((5, 0), .inl (g.2.1 0, capj j O.length, .inl fo)) := by rw [← hh3]; exact (z_put_ne ne_ob_wr).trans f2_ob
    have f3_wr : h3 wr = some ((9, 0), .inr (10, [.ref kn, .ref pr, .ref ow])) := by rw [← hh3]; exact z_put_eq
    have kk3 : z_K (fun y => y = 4 ∨ y = 5 ∨ y = 9) h h3 := kk2.tr (by rw [← hh3]; exact z_K.put f2_wr (by first | decide | simp | omega))
    refine W.eq (g2 := F0 m 35 ls [.ref wr]) rfl ?_
    refine lv_iconst (v := 0) hx hb d_X_write_35 (by decide) ?_
    refine lv_iconst (v := 0) hx hb d_X_write_36 (by decide) ?_
    have o1 : OutB g h3 ow (jf j O.length) [] := OutB.nil f3_ow f3_ob rfl ho2
    refine z_callV (n := 2) (As := [.int 0, .int 0]) (rest := []) ⟨hx, hb, hml, hown, hts⟩ (c_putMembers0 l g h3 jl8 hf2 hr0 (by omega) (by omega) (hS.k kk3 (by omega) (by omega) (by omega)) (hN.k kk3 (by omega) (by omega) (by omega)) f3_wr o1 hR1 hwl) (z_in k_702 rfl) (z_in k_19 rfl) (z_in k_699 rfl) (z_in k_700 rfl) (z_in k_701 rfl) (by decide +kernel) ⟨by first | exact Nat.le_of_ble_eq_true rfl | (dsimp only; omega) | omega, by first | exact Nat.le_of_ble_eq_true rfl | (dsimp only; omega) | omega⟩ hK hE hw hA rfl f3_wr rfl hl.1 (Nat.le_of_ble_eq_true rfl) d_X_write_37 ⟨by first | exact Nat.le_of_ble_eq_true rfl | (dsimp only; omega) | omega, by first | exact Nat.le_of_ble_eq_true rfl | (dsimp only; omega) | omega⟩ rfl (fun r9 h9 H locs hp hw => ?_)
    obtain ⟨r8, o8, k8⟩ := hp
    subst r8
    obtain ⟨h4, e7⟩ : ∃ x9, x9 = h9 := ⟨_, rfl⟩
    subst e7
    obtain ⟨ob8, fo8, how8, hob8, -⟩ := id o8
    have g4_xo : h4 xo = some ((1, 0), .inr (0, [.ref tp, .ref ow, .ref kn, .ref pr, .ref sp])) := k8 _ _ _ f3_xo (by simp; try omega)
    have g4_tp : h4 tp = some ((2, 0), .inr (1, [.ref b, .int (nI T.length)])) := k8 _ _ _ f3_tp (by simp; try omega)
    have g4_b : h4 b = some ((3, 0), .inl (g.2.1 0, 4000, .inl f)) := k8 _ _ _ f3_b (by simp; try omega)
    have g4_kn : h4 kn = some ((r, 0), .inr (3, [.ref fa9, .ref ca, .int (nI S.1), .int (nI (cc S)), .int (nI (rq S (-1)))])) := k8 _ _ _ f3_kn (by simp; try omega)
    have g4_pr : h4 pr = some ((mr, 0), .inr (5, [.ref ra, .int (nI R.1), .int (nI (tbC R.2 R.1))])) := k8 _ _ _ f3_pr (by simp; try omega)
    have kk4 : z_K (fun y => y = 4 ∨ y = 5 ∨ y = 9) h h4 := kk3.tr (k8.mono (fun y z => by omega))
    refine W.eq (g2 := F0 m 40 ls [.int (nI ((wrD S R 17 0).1))]) rfl ?_
    refine lv_pop hx hb d_X_write_40 rfl ?_
    refine lv_aload_n hx hb d_X_write_41 rfl (lv_at hl 0 rfl) ?_
    refine z_get hx hb hts (z_lay i_X) hown hK hw g4_xo rfl 1 (by decide) (z_in k_147 rfl) (fun _ h9 => h9) rfl d_X_write_42 ?_
    refine z_getN hx hb hts (z_lay i_ByteRow) hown hK hw how8 rfl 1 (by decide) hE.nest (z_inN k_50 rfl) (fun _ h9 => h9) rfl d_X_write_45 ?_
    exact z_iret hx hb hr hlocks hw (by refine ⟨by unfold oWrite; rw [c_11]; rfl, ?_, kk4.mono (fun y z => by unfold KXr; omega)⟩; unfold oWrite; rw [c_11]; exact ⟨tp, b, ow, kn, pr, sp, r, mr, mr2, ra2, f, rf2, a2, c2, g4_xo, g4_tp, g4_b, ⟨hfb, hT4, hT⟩, ⟨o8, jl8⟩, ⟨⟨_, _, _, _, _, _, _, hS.k kk4 (by omega) (by omega) (by omega)⟩, hr0, hgr⟩, ⟨⟨_, _, _, _, _, hN.k kk4 (by omega) (by omega) (by omega)⟩, hpa⟩, ⟨kk4 _ _ _ hsp (by dsimp only; omega), kk4 _ _ _ hra2 (by dsimp only; omega)⟩, hmr⟩) (by first | exact Nat.le_of_ble_eq_true rfl | (dsimp only; omega) | omega) (by first | exact Nat.le_of_ble_eq_true rfl | (dsimp only; omega) | omega) d_X_write_48
  · -- 11: False
    have c_11 : (oIsWhole S R) = false := zb_f c_11
    refine lv_iconst (v := (-1)) hx hb d_X_write_14 (by decide) ?_
    exact z_iret hx hb hr hlocks hw (by refine ⟨by unfold oWrite; rw [c_11]; rfl, ?_, kk1.mono (fun y z => by unfold KXr; omega)⟩; unfold oWrite; rw [c_11]; exact X0) (by first | exact Nat.le_of_ble_eq_true rfl | (dsimp only; omega) | omega) (by first | exact Nat.le_of_ble_eq_true rfl | (dsimp only; omega) | omega) d_X_write_15

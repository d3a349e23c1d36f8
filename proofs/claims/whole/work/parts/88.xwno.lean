set_option maxHeartbeats 300000 in
set_option maxRecDepth 100000 in
theorem x_write_no (l : Launch) (g : z_G) (h : z_H) {xo : Nat} {T : List Nat} {S : Sch} {R : Rec} {O : List Nat} {j : Nat}   (hX : XAt g h xo T S R O j) (hfo : fiOK S R) (hnw : oIsWhole S R = false) : z_C l y_X_write prog_1_method_18_code 1 (Option.some Jvm.ClassFile.FieldType.int) 185 5600 1 3 g [.ref xo] h (fun x h1 => XPt g h x (.int (oWrite S R).1) h1 xo T S R (oWrite S R).2 (jf j O.length)) := by
  refine z_C.of (by decide) (Nat.le_of_ble_eq_true rfl) (fun pg en s m below meth cd A ls hx hb hml hr hts hown hlocks hnm hK hE hA hw hl => ?_)
  have hl : lv_has ls 1 [(0, .ref xo)] := hl
  obtain ⟨tp, b, ow, kn, pr, sp, r, mr, mr2, ra2, f, rf2, a2, c2, hxo, htp0, hb0, ⟨hfb, hT4, hT⟩, ⟨hO, hj⟩, ⟨⟨fa9, ca, adS, na, ff, cf, nf, hS⟩, hr0, hgr⟩, ⟨⟨ra, ad, tx, rf, tf, hN⟩, hpa⟩, ⟨hsp, hra2⟩, hmr⟩ := id hX
  have hkn := hS.1
  have hpr := hN.1
  have hs8 : S.1 ≤ 128 := hS.2.2.2.2.2.2.2.1
  have hcc8 : cc S ≤ 64 := hS.2.2.2.2.2.2.2.2
  have hR2 : R.1 ≤ 2000 := hN.2.2.2.2.2.1
  obtain ⟨ob, fo, how, hob, ho1, ho2, ho3⟩ := hO
  have jl8 := (jf_le O.length hj).2
  have jz := jf_zero (jf j O.length)
  have kk0 : z_K (fun y => y = 4 ∨ y = 5 ∨ y = 9) h h := z_K.rf
  refine lv_aload_n hx hb d_X_write_0 rfl (lv_at hl 0 rfl) ?_
  refine z_get hx hb hts (z_lay i_X) hown hK hw hxo rfl 1 (by decide) (z_in k_147 rfl) (fun _ h9 => h9) rfl d_X_write_1 ?_
  refine z_callV (n := 0) (As := []) (rest := []) ⟨hx, hb, hml, hown, hts⟩ (c_ByteRow_clear l g h how) (z_in k_681 rfl) (z_in k_3 rfl) (z_in k_678 rfl) (z_in k_679 rfl) (z_in k_680 rfl) (by decide +kernel) ⟨by first | exact Nat.le_of_ble_eq_true rfl | (dsimp only; omega) | omega, by first | exact Nat.le_of_ble_eq_true rfl | (dsimp only; omega) | omega⟩ hK hE hw hA rfl how rfl hl.1 (Nat.le_of_ble_eq_true rfl) d_X_write_4 ⟨by first | exact Nat.le_of_ble_eq_true rfl | (dsimp only; omega) | omega, by first | exact Nat.le_of_ble_eq_true rfl | (dsimp only; omega) | omega⟩ rfl (fun r9 h9 H locs hp hw => ?_)
  obtain ⟨r8, hh1⟩ := hp
  subst r8
  obtain ⟨h1, e8⟩ : ∃ x9, x9 = h9 := ⟨_, rfl⟩
  subst e8
  have f1_xo : h1 xo = some ((1, 0), .inr (0, [.ref tp, .ref ow, .ref kn, .ref pr, .ref sp])) := by rw [← hh1]; exact z_keep how hxo (z_t1 (by decide))
  have f1_tp : h1 tp = some ((2, 0), .inr (1, [.ref b, .int (nI T.length)])) := by rw [← hh1]; exact z_keep how htp0 (z_t1 (by decide))
  have f1_b : h1 b = some ((3, 0), .inl (g.2.1 0, 4000, .inl f)) := by rw [← hh1]; exact z_keep how hb0 (z_t1 (by decide))
  have f1_kn : h1 kn = some ((r, 0), .inr (3, [.ref fa9, .ref ca, .int (nI S.1), .int (nI (cc S)), .int (nI (rq S (-1)))])) := by rw [← hh1]; exact z_keep how hkn (by first | decide | (refine z_t1 ?_; omega) | (refine z_t2 ?_; omega))
  have f1_pr : h1 pr = some ((mr, 0), .inr (5, [.ref ra, .int (nI R.1), .int (nI (tbC R.2 R.1))])) := by rw [← hh1]; exact z_keep how hpr (by first | decide | (refine z_t1 ?_; omega) | (refine z_t2 ?_; omega))
  have f1_ow : h1 ow = some ((4, 0), .inr (2, [.ref ob, .int 0])) := by rw [← hh1]; exact z_put_eq
  have f1_ob : h1 ob = some ((5, 0), .inl (g.2.1 0, capj j O.length, .inl fo)) := by rw [← hh1]; exact z_keep how hob (z_t1 (by decide))
  have kk1 : z_K (fun y => y = 4 ∨ y = 5 ∨ y = 9) h h1 := kk0.tr (by rw [← hh1]; exact z_K.put how (by first | decide | simp | omega))
  have o0 : OutB g h1 ow (jf j O.length) [] := OutB.nil f1_ow f1_ob rfl ho2
  have X0 : XAt g h1 xo T S R [] (jf j O.length) := ⟨tp, b, ow, kn, pr, sp, r, mr, mr2, ra2, f, rf2, a2, c2, f1_xo, f1_tp, f1_b, ⟨hfb, hT4, hT⟩, ⟨o0, jl8⟩, ⟨⟨_, _, _, _, _, _, _, hS.k kk1 (by omega) (by omega) (by omega)⟩, hr0, hgr⟩, ⟨⟨_, _, _, _, _, hN.k kk1 (by omega) (by omega) (by omega)⟩, hpa⟩, ⟨kk1 _ _ _ hsp (by dsimp only; omega), kk1 _ _ _ hra2 (by dsimp only; omega)⟩, hmr⟩
  refine W.eq (g2 := F0 m 7 ls []) rfl ?_
  refine lv_aload_n hx hb d_X_write_7 rfl (lv_at hl 0 rfl) ?_
  refine z_callV (n := 0) (As := []) (rest := []) ⟨hx, hb, hml, hown, hts⟩ (x_isWhole l g h1 X0 hfo) (z_in k_665 rfl) (z_in k_1 rfl) (z_in k_682 rfl) (z_in k_663 rfl) (z_in k_664 rfl) (by decide +kernel) ⟨by first | exact Nat.le_of_ble_eq_true rfl | (dsimp only; omega) | omega, by first | exact Nat.le_of_ble_eq_true rfl | (dsimp only; omega) | omega⟩ hK hE hw hA rfl f1_xo rfl hl.1 (Nat.le_of_ble_eq_true rfl) d_X_write_8 ⟨by first | exact Nat.le_of_ble_eq_true rfl | (dsimp only; omega) | omega, by first | exact Nat.le_of_ble_eq_true rfl | (dsimp only; omega) | omega⟩ rfl (fun r9 h9 H locs hp hw => ?_)
  obtain ⟨r8, h8⟩ := hp
  subst r8
  subst h8
  refine W.eq (g2 := F0 m 11 ls [.int (zb (oIsWhole S R))]) rfl ?_
  refine lv_if_ne (tgt := 16) hx hb d_X_write_11 (by decide) (fun c_11 => ?_) (fun c_11 => ?_)
  · -- 11: True
    have c_11 : (oIsWhole S R) = true := zb_t c_11
    rw [hnw] at c_11; cases c_11
  · -- 11: False
    have c_11 : (oIsWhole S R) = false := zb_f c_11
    refine lv_iconst (v := (-1)) hx hb d_X_write_14 (by decide) ?_
    exact z_iret hx hb hr hlocks hw (by refine ⟨by unfold oWrite; rw [c_11]; rfl, ?_, kk1.mono (fun y z => by unfold KXr; omega)⟩; unfold oWrite; rw [c_11]; exact X0) (by decide) (by decide) d_X_write_15

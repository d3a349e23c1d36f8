def okAdd (S : Sch) (R : Rec) (pa f : Int32) (ok : Bool) : Bool := isIx f S.1 && ok && isIx pa R.1 && mayT R pa.toNatClampNeg f.toNatClampNeg (fKi (S.2 f.toNatClampNeg)) (fGr (S.2 f.toNatClampNeg)) && decide (R.1 < 2000)
def oAdd (S : Sch) (R : Rec) (pa f : Int32) (v : Int64) : Int32 × Rec := if okAdd S R pa f (!decide (fTy (S.2 f.toNatClampNeg) = 3) && (!decide (fTy (S.2 f.toNatClampNeg) = 1) || decide (v = v.toInt32.toInt64))) = true then (nI R.1, addN R (f, pa, keptN (fTy (S.2 f.toNatClampNeg)) v, [])) else (-1, R)
def oAddText (T : List Nat) (S : Sch) (R : Rec) (pa f n : Int32) : Int32 × List Nat × Rec := if isFew T n = true then (-2, T, R) else if (okAdd S R pa f (decide (fTy (S.2 f.toNatClampNeg) = 3) && decide (n ≤ 255)) && decide (tbR R + n.toNatClampNeg ≤ 16000)) = true then (nI R.1, [], addN R (f, pa, 0, T.take n.toNatClampNeg)) else (-1, [], R)
theorem okAdd_nof {S : Sch} {R : Rec} {pa f : Int32} {ok : Bool} (h : f < 0 ∨ nI S.1 ≤ f) : okAdd S R pa f ok = false := by unfold okAdd; rw [isIx_no h]; rfl
theorem okAdd_nop {S : Sch} {R : Rec} {pa f : Int32} {ok : Bool} (h : pa < 0 ∨ nI R.1 ≤ pa) : okAdd S R pa f ok = false := by unfold okAdd; rw [isIx_no h]; simp
theorem okAdd_in {S : Sch} {R : Rec} {p i : Nat} {ok : Bool} (hi : i < S.1) (hp : p < R.1) (hs : S.1 ≤ 128) (hr : R.1 ≤ 2000) : okAdd S R (nI p) (nI i) ok = (ok && mayT R p i (fKi (S.2 i)) (fGr (S.2 i)) && decide (R.1 < 2000)) := by
  unfold okAdd
  rw [isIx_yes hi (by omega), isIx_yes hp (by omega), nI_clamp (by omega), nI_clamp (by omega)]
  simp

set_option maxHeartbeats 300000 in
set_option maxRecDepth 100000 in
theorem x_add_nof (l : Launch) (g : z_G) (h : z_H) {xo : Nat} {T : List Nat} {S : Sch} {R : Rec} {O : List Nat} {j : Nat} {pa a : Int32} {v : Int64}  (hX : XAt g h xo T S R O j) (ho : a < 0 ∨ nI S.1 ≤ a) : z_C l y_X_add prog_1_method_11_code 6 (Option.some Jvm.ClassFile.FieldType.int) 4 120 1 7 g [.ref xo, .int pa, .int a, .long v] h (fun x h1 => XPt g h x (.int (oAdd S R pa a v).1) h1 xo T S (oAdd S R pa a v).2 O j) := by
  refine z_C.of (by decide) (Nat.le_of_ble_eq_true rfl) (fun pg en s m below meth cd A ls hx hb hml hr hts hown hlocks hnm hK hE hA hw hl => ?_)
  have hl : lv_has ls 6 [(0, .ref xo), (1, .int pa), (2, .int a), (3, .long v)] := hl
  obtain ⟨tp, b, ow, kn, pr, sp, r, mr, mr2, ra2, f, rf2, a2, c2, hxo, htp0, hb0, ⟨hfb, hT4, hT⟩, ⟨hO, hj⟩, ⟨⟨fa9, ca, adS, na, ff, cf, nf, hS⟩, hr0, hgr⟩, ⟨⟨ra, ad, tx, rf, tf, hN⟩, hpa⟩, ⟨hsp, hra2⟩, hmr⟩ := id hX
  have hkn := hS.1
  have hpr := hN.1
  have hs8 : S.1 ≤ 128 := hS.2.2.2.2.2.2.2.1
  have hcc8 : cc S ≤ 64 := hS.2.2.2.2.2.2.2.2
  have hR2 : R.1 ≤ 2000 := hN.2.2.2.2.2.1
  refine lv_aload_n hx hb d_X_add_0 rfl (lv_at hl 0 rfl) ?_
  refine z_get hx hb hts (z_lay i_X) hown hK hw hxo rfl 2 (by decide) (z_in k_148 rfl) (fun _ h9 => h9) rfl d_X_add_1 ?_
  refine lv_iload_n hx hb d_X_add_4 rfl (lv_at hl 2 rfl) ?_
  refine z_callV (n := 1) (As := [.int a]) (rest := []) ⟨hx, hb, hml, hown, hts⟩ (c_Schema_fieldAt_no l g h hS ho) (z_in k_356 rfl) (z_in k_4 rfl) (z_in k_467 rfl) (z_in k_354 rfl) (z_in k_355 rfl) (by decide +kernel) ⟨by first | exact Nat.le_of_ble_eq_true rfl | (dsimp only; omega) | omega, by first | exact Nat.le_of_ble_eq_true rfl | (dsimp only; omega) | omega⟩ hK hE hw hA rfl hkn rfl hl.1 (Nat.le_of_ble_eq_true rfl) d_X_add_5 ⟨by first | exact Nat.le_of_ble_eq_true rfl | (dsimp only; omega) | omega, by first | exact Nat.le_of_ble_eq_true rfl | (dsimp only; omega) | omega⟩ rfl (fun r9 h9 H locs hp hw => ?_)
  obtain ⟨r8, h8⟩ := hp
  subst r8
  subst h8
  refine W.eq (g2 := F0 m 8 ls [.null]) rfl ?_
  refine lv_astoreN (lv' := [(5, .null), (0, .ref xo), (1, .int pa), (2, .int a), (3, .long v)]) hx hb d_X_add_8 hl (by decide) rfl (fun ls hl => ?_)
  refine lv_aloadN hx hb d_X_add_10 (lv_at hl 0 rfl) ?_
  refine lv_ifnullN (tgt := 46) hx hb d_X_add_12 (by decide) ?_
  have eW : oAdd S R pa a v = (-1, R) := by unfold oAdd; rw [okAdd_nof ho]; rfl
  refine lv_iconst (v := (-1)) hx hb d_X_add_46 (by decide) ?_
  exact z_iret hx hb hr hlocks hw (by refine ⟨by rw [eW], ?_, z_K.rf⟩; rw [eW]; exact hX) (by decide) (by decide) d_X_add_47

set_option maxHeartbeats 300000 in
set_option maxRecDepth 100000 in
theorem x_add_nop (l : Launch) (g : z_G) (h : z_H) {xo : Nat} {T : List Nat} {S : Sch} {R : Rec} {O : List Nat} {j : Nat} {pa : Int32} {i : Nat} {v : Int64}  (hX : XAt g h xo T S R O j) (hi : i < S.1) (hp : pa < 0 ∨ nI R.1 ≤ pa) : z_C l y_X_add prog_1_method_11_code 6 (Option.some Jvm.ClassFile.FieldType.int) 4 120 1 7 g [.ref xo, .int pa, .int (nI i), .long v] h (fun x h1 => XPt g h x (.int (oAdd S R pa (nI i) v).1) h1 xo T S (oAdd S R pa (nI i) v).2 O j) := by
  refine z_C.of (by decide) (Nat.le_of_ble_eq_true rfl) (fun pg en s m below meth cd A ls hx hb hml hr hts hown hlocks hnm hK hE hA hw hl => ?_)
  have hl : lv_has ls 6 [(0, .ref xo), (1, .int pa), (2, .int (nI i)), (3, .long v)] := hl
  obtain ⟨tp, b, ow, kn, pr, sp, r, mr, mr2, ra2, f, rf2, a2, c2, hxo, htp0, hb0, ⟨hfb, hT4, hT⟩, ⟨hO, hj⟩, ⟨⟨fa9, ca, adS, na, ff, cf, nf, hS⟩, hr0, hgr⟩, ⟨⟨ra, ad, tx, rf, tf, hN⟩, hpa⟩, ⟨hsp, hra2⟩, hmr⟩ := id hX
  have hkn := hS.1
  have hpr := hN.1
  have hs8 : S.1 ≤ 128 := hS.2.2.2.2.2.2.2.1
  have hcc8 : cc S ≤ 64 := hS.2.2.2.2.2.2.2.2
  have hR2 : R.1 ≤ 2000 := hN.2.2.2.2.2.1
  have hff9 := (hS.2.2.2.1 i hi).2
  have hnn9 := hS.2.2.2.2.1 i hi
  have hnb9 := hS.2.2.2.2.2.1 i hi
  refine lv_aload_n hx hb d_X_add_0 rfl (lv_at hl 0 rfl) ?_
  refine z_get hx hb hts (z_lay i_X) hown hK hw hxo rfl 2 (by decide) (z_in k_148 rfl) (fun _ h9 => h9) rfl d_X_add_1 ?_
  refine lv_iload_n hx hb d_X_add_4 rfl (lv_at hl 2 rfl) ?_
  refine z_callV (n := 1) (As := [.int (nI i)]) (rest := []) ⟨hx, hb, hml, hown, hts⟩ (c_Schema_fieldAt (i := i) l g h hS hi) (z_in k_356 rfl) (z_in k_4 rfl) (z_in k_467 rfl) (z_in k_354 rfl) (z_in k_355 rfl) (by decide +kernel) ⟨by first | exact Nat.le_of_ble_eq_true rfl | (dsimp only; omega) | omega, by first | exact Nat.le_of_ble_eq_true rfl | (dsimp only; omega) | omega⟩ hK hE hw hA rfl hkn rfl hl.1 (Nat.le_of_ble_eq_true rfl) d_X_add_5 ⟨by first | exact Nat.le_of_ble_eq_true rfl | (dsimp only; omega) | omega, by first | exact Nat.le_of_ble_eq_true rfl | (dsimp only; omega) | omega⟩ rfl (fun r9 h9 H locs hp hw => ?_)
  obtain ⟨r8, h8⟩ := hp
  subst r8
  subst h8
  refine W.eq (g2 := F0 m 8 ls [.ref (adS i)]) rfl ?_
  refine lv_astore (lv' := [(5, .ref (adS i)), (0, .ref xo), (1, .int pa), (2, .int (nI i)), (3, .long v)]) hx hb d_X_add_8 hl (by decide) rfl (fun ls hl => ?_)
  refine lv_aload hx hb d_X_add_10 (lv_at hl 0 rfl) ?_
  refine lv_ifnull hx hb d_X_add_12 ?_
  refine lv_aload hx hb d_X_add_15 (lv_at hl 0 rfl) ?_
  refine z_getN hx hb hts (z_lay i_Field) hown hK hw hff9 rfl 2 (by decide) hE.nest (z_inN k_412 rfl) (fun _ h9 => h9) rfl d_X_add_17 ?_
  refine lv_iconst (v := 3) hx hb d_X_add_20 (by decide) ?_
  refine lv_icmp_eq (tgt := 46) hx hb d_X_add_21 (by decide) (fun c_21 => ?_) (fun c_21 => ?_)
  · -- 21: True
    have eW : oAdd S R pa (nI i) v = (-1, R) := by unfold oAdd; rw [okAdd_nop hp]; rfl
    refine lv_iconst (v := (-1)) hx hb d_X_add_46 (by decide) ?_
    exact z_iret hx hb hr hlocks hw (by refine ⟨by rw [eW], ?_, z_K.rf⟩; rw [eW]; exact hX) (by decide) (by decide) d_X_add_47
  · -- 21: False
    refine lv_aload hx hb d_X_add_24 (lv_at hl 0 rfl) ?_
    refine lv_lload_n hx hb d_X_add_26 rfl (lv_at hl 4 rfl) ?_
    refine z_callV (n := 1) (As := [.long v]) (rest := []) ⟨hx, hb, hml, hown, hts⟩ (c_Field_hasInRange (v := v) l g h hff9) (z_in k_621 rfl) (z_in k_17 rfl) (z_in k_618 rfl) (z_in k_619 rfl) (z_in k_620 rfl) (by decide +kernel) ⟨by first | exact Nat.le_of_ble_eq_true rfl | (dsimp only; omega) | omega, by first | exact Nat.le_of_ble_eq_true rfl | (dsimp only; omega) | omega⟩ hK hE hw hA rfl hff9 rfl hl.1 (Nat.le_of_ble_eq_true rfl) d_X_add_27 ⟨by first | exact Nat.le_of_ble_eq_true rfl | (dsimp only; omega) | omega, by first | exact Nat.le_of_ble_eq_true rfl | (dsimp only; omega) | omega⟩ rfl (fun r9 h9 H locs hp hw => ?_)
    obtain ⟨r8, h8⟩ := hp
    subst r8
    subst h8
    refine W.eq (g2 := F0 m 30 ls [.int (zb (!decide (fTy (S.2 i) = 1) || decide (v = v.toInt32.toInt64)))]) rfl ?_
    refine lv_if_eq (tgt := 46) hx hb d_X_add_30 (by decide) (fun c_30 => ?_) (fun c_30 => ?_)
    · -- 30: True
      have c_30 : (!decide (fTy (S.2 i) = 1) || decide (v = v.toInt32.toInt64)) = false := zb_f c_30
      have eW : oAdd S R pa (nI i) v = (-1, R) := by unfold oAdd; rw [okAdd_nop hp]; rfl
      refine lv_iconst (v := (-1)) hx hb d_X_add_46 (by decide) ?_
      exact z_iret hx hb hr hlocks hw (by refine ⟨by rw [eW], ?_, z_K.rf⟩; rw [eW]; exact hX) (by decide) (by decide) d_X_add_47
    · -- 30: False
      have c_30 : (!decide (fTy (S.2 i) = 1) || decide (v = v.toInt32.toInt64)) = true := zb_t c_30
      refine lv_aload_n hx hb d_X_add_33 rfl (lv_at hl 1 rfl) ?_
      refine z_get hx hb hts (z_lay i_X) hown hK hw hxo rfl 3 (by decide) (z_in k_149 rfl) (fun _ h9 => h9) rfl d_X_add_34 ?_
      refine lv_iload_n hx hb d_X_add_37 rfl (lv_at hl 2 rfl) ?_
      refine lv_aload hx hb d_X_add_38 (lv_at hl 0 rfl) ?_
      refine z_callV (n := 2) (As := [.int pa, .ref (adS i)]) (rest := []) ⟨hx, hb, hml, hown, hts⟩ (c_mayTake_no l g h hN hp) (z_in k_625 rfl) (z_in k_5 rfl) (z_in k_622 rfl) (z_in k_623 rfl) (z_in k_624 rfl) (by decide +kernel) ⟨by first | exact Nat.le_of_ble_eq_true rfl | (dsimp only; omega) | omega, by first | exact Nat.le_of_ble_eq_true rfl | (dsimp only; omega) | omega⟩ hK hE hw hA rfl hpr rfl hl.1 (Nat.le_of_ble_eq_true rfl) d_X_add_40 ⟨by first | exact Nat.le_of_ble_eq_true rfl | (dsimp only; omega) | omega, by first | exact Nat.le_of_ble_eq_true rfl | (dsimp only; omega) | omega⟩ rfl (fun r9 h9 H locs hp hw => ?_)
      obtain ⟨r8, h8⟩ := hp
      subst r8
      subst h8
      refine W.eq (g2 := F0 m 43 ls [.int 0]) rfl ?_
      refine lv_if_ne (tgt := 48) hx hb d_X_add_43 (by decide) (fun c_43 => ?_) (fun c_43 => ?_)
      · -- 43: True
        exact absurd (by decide) c_43
      · -- 43: False
        have eW : oAdd S R pa (nI i) v = (-1, R) := by unfold oAdd; rw [okAdd_nop hp]; rfl
        refine lv_iconst (v := (-1)) hx hb d_X_add_46 (by decide) ?_
        exact z_iret hx hb hr hlocks hw (by refine ⟨by rw [eW], ?_, z_K.rf⟩; rw [eW]; exact hX) (by decide) (by decide) d_X_add_47

set_option maxHeartbeats 300000 in
set_option maxRecDepth 100000 in
theorem x_add_in (l : Launch) (g : z_G) (h : z_H) {xo : Nat} {T : List Nat} {S : Sch} {R : Rec} {O : List Nat} {j : Nat} {p i : Nat} {v : Int64}  (hX : XAt g h xo T S R O j) (hi : i < S.1) (hp : p < R.1) : z_C l y_X_add prog_1_method_11_code 6 (Option.some Jvm.ClassFile.FieldType.int) 4 120 1 7 g [.ref xo, .int (nI p), .int (nI i), .long v] h (fun x h1 => XPt g h x (.int (oAdd S R (nI p) (nI i) v).1) h1 xo T S (oAdd S R (nI p) (nI i) v).2 O j) := by
  refine z_C.of (by decide) (Nat.le_of_ble_eq_true rfl) (fun pg en s m below meth cd A ls hx hb hml hr hts hown hlocks hnm hK hE hA hw hl => ?_)
  have hl : lv_has ls 6 [(0, .ref xo), (1, .int (nI p)), (2, .int (nI i)), (3, .long v)] := hl
  obtain ⟨tp, b, ow, kn, pr, sp, r, mr, mr2, ra2, f, rf2, a2, c2, hxo, htp0, hb0, ⟨hfb, hT4, hT⟩, ⟨hO, hj⟩, ⟨⟨fa9, ca, adS, na, ff, cf, nf, hS⟩, hr0, hgr⟩, ⟨⟨ra, ad, tx, rf, tf, hN⟩, hpa⟩, ⟨hsp, hra2⟩, hmr⟩ := id hX
  have hkn := hS.1
  have hpr := hN.1
  have hs8 : S.1 ≤ 128 := hS.2.2.2.2.2.2.2.1
  have hcc8 : cc S ≤ 64 := hS.2.2.2.2.2.2.2.2
  have hR2 : R.1 ≤ 2000 := hN.2.2.2.2.2.1
  have hff9 := (hS.2.2.2.1 i hi).2
  have hnn9 := hS.2.2.2.2.1 i hi
  have hnb9 := hS.2.2.2.2.2.1 i hi
  have htb16 : tbC R.2 R.1 ≤ 16000 := hN.2.2.2.2.2.2
  have kk0 : z_K (fun y => y = 2 ∨ y = 6 ∨ y = mr ∨ y = mr + 1) h h := z_K.rf
  refine lv_aload_n hx hb d_X_add_0 rfl (lv_at hl 0 rfl) ?_
  refine z_get hx hb hts (z_lay i_X) hown hK hw hxo rfl 2 (by decide) (z_in k_148 rfl) (fun _ h9 => h9) rfl d_X_add_1 ?_
  refine lv_iload_n hx hb d_X_add_4 rfl (lv_at hl 2 rfl) ?_
  refine z_callV (n := 1) (As := [.int (nI i)]) (rest := []) ⟨hx, hb, hml, hown, hts⟩ (c_Schema_fieldAt (i := i) l g h hS hi) (z_in k_356 rfl) (z_in k_4 rfl) (z_in k_467 rfl) (z_in k_354 rfl) (z_in k_355 rfl) (by decide +kernel) ⟨by first | exact Nat.le_of_ble_eq_true rfl | (dsimp only; omega) | omega, by first | exact Nat.le_of_ble_eq_true rfl | (dsimp only; omega) | omega⟩ hK hE hw hA rfl hkn rfl hl.1 (Nat.le_of_ble_eq_true rfl) d_X_add_5 ⟨by first | exact Nat.le_of_ble_eq_true rfl | (dsimp only; omega) | omega, by first | exact Nat.le_of_ble_eq_true rfl | (dsimp only; omega) | omega⟩ rfl (fun r9 h9 H locs hp hw => ?_)
  obtain ⟨r8, h8⟩ := hp
  subst r8
  subst h8
  refine W.eq (g2 := F0 m 8 ls [.ref (adS i)]) rfl ?_
  refine lv_astore (lv' := [(5, .ref (adS i)), (0, .ref xo), (1, .int (nI p)), (2, .int (nI i)), (3, .long v)]) hx hb d_X_add_8 hl (by decide) rfl (fun ls hl => ?_)
  refine lv_aload hx hb d_X_add_10 (lv_at hl 0 rfl) ?_
  refine lv_ifnull hx hb d_X_add_12 ?_
  refine lv_aload hx hb d_X_add_15 (lv_at hl 0 rfl) ?_
  refine z_getN hx hb hts (z_lay i_Field) hown hK hw hff9 rfl 2 (by decide) hE.nest (z_inN k_412 rfl) (fun _ h9 => h9) rfl d_X_add_17 ?_
  refine lv_iconst (v := 3) hx hb d_X_add_20 (by decide) ?_
  refine lv_icmp_eq (tgt := 46) hx hb d_X_add_21 (by decide) (fun c_21 => ?_) (fun c_21 => ?_)
  · -- 21: True
    have eO : okAdd S R (nI p) (nI i) (!decide (fTy (S.2 (nI i).toNatClampNeg) = 3) && (!decide (fTy (S.2 (nI i).toNatClampNeg) = 1) || decide (v = v.toInt32.toInt64))) = false := by rw [okAdd_in hi hp hs8 hR2, nI_clamp (show i < 2 ^ 31 by omega)]; rw [decide_eq_true c_21]; rfl
    have eW : oAdd S R (nI p) (nI i) v = (-1, R) := by unfold oAdd; rw [eO]; rfl
    refine lv_iconst (v := (-1)) hx hb d_X_add_46 (by decide) ?_
    exact z_iret hx hb hr hlocks hw (by refine ⟨by rw [eW], ?_, z_K.rf⟩; rw [eW]; exact hX) (by decide) (by decide) d_X_add_47
  · -- 21: False
    refine lv_aload hx hb d_X_add_24 (lv_at hl 0 rfl) ?_
    refine lv_lload_n hx hb d_X_add_26 rfl (lv_at hl 4 rfl) ?_
    refine z_callV (n := 1) (As := [.long v]) (rest := []) ⟨hx, hb, hml, hown, hts⟩ (c_Field_hasInRange (v := v) l g h hff9) (z_in k_621 rfl) (z_in k_17 rfl) (z_in k_618 rfl) (z_in k_619 rfl) (z_in k_620 rfl) (by decide +kernel) ⟨by first | exact Nat.le_of_ble_eq_true rfl | (dsimp only; omega) | omega, by first | exact Nat.le_of_ble_eq_true rfl | (dsimp only; omega) | omega⟩ hK hE hw hA rfl hff9 rfl hl.1 (Nat.le_of_ble_eq_true rfl) d_X_add_27 ⟨by first | exact Nat.le_of_ble_eq_true rfl | (dsimp only; omega) | omega, by first | exact Nat.le_of_ble_eq_true rfl | (dsimp only; omega) | omega⟩ rfl (fun r9 h9 H locs hp hw => ?_)
    obtain ⟨r8, h8⟩ := hp
    subst r8
    subst h8
    refine W.eq (g2 := F0 m 30 ls [.int (zb (!decide (fTy (S.2 i) = 1) || decide (v = v.toInt32.toInt64)))]) rfl ?_
    refine lv_if_eq (tgt := 46) hx hb d_X_add_30 (by decide) (fun c_30 => ?_) (fun c_30 => ?_)
    · -- 30: True
      have c_30 : (!decide (fTy (S.2 i) = 1) || decide (v = v.toInt32.toInt64)) = false := zb_f c_30
      have eO : okAdd S R (nI p) (nI i) (!decide (fTy (S.2 (nI i).toNatClampNeg) = 3) && (!decide (fTy (S.2 (nI i).toNatClampNeg) = 1) || decide (v = v.toInt32.toInt64))) = false := by rw [okAdd_in hi hp hs8 hR2, nI_clamp (show i < 2 ^ 31 by omega)]; rw [c_30]; simp
      have eW : oAdd S R (nI p) (nI i) v = (-1, R) := by unfold oAdd; rw [eO]; rfl
      refine lv_iconst (v := (-1)) hx hb d_X_add_46 (by decide) ?_
      exact z_iret hx hb hr hlocks hw (by refine ⟨by rw [eW], ?_, z_K.rf⟩; rw [eW]; exact hX) (by decide) (by decide) d_X_add_47
    · -- 30: False
      have c_30 : (!decide (fTy (S.2 i) = 1) || decide (v = v.toInt32.toInt64)) = true := zb_t c_30
      refine lv_aload_n hx hb d_X_add_33 rfl (lv_at hl 1 rfl) ?_
      refine z_get hx hb hts (z_lay i_X) hown hK hw hxo rfl 3 (by decide) (z_in k_149 rfl) (fun _ h9 => h9) rfl d_X_add_34 ?_
      refine lv_iload_n hx hb d_X_add_37 rfl (lv_at hl 2 rfl) ?_
      refine lv_aload hx hb d_X_add_38 (lv_at hl 0 rfl) ?_
      refine z_callV (n := 2) (As := [.int (nI p), .ref (adS i)]) (rest := []) ⟨hx, hb, hml, hown, hts⟩ (c_mayTake l g h hff9 hN hpa hp) (z_in k_625 rfl) (z_in k_5 rfl) (z_in k_622 rfl) (z_in k_623 rfl) (z_in k_624 rfl) (by decide +kernel) ⟨by first | exact Nat.le_of_ble_eq_true rfl | (dsimp only; omega) | omega, by first | exact Nat.le_of_ble_eq_true rfl | (dsimp only; omega) | omega⟩ hK hE hw hA rfl hpr rfl hl.1 (Nat.le_of_ble_eq_true rfl) d_X_add_40 ⟨by first | exact Nat.le_of_ble_eq_true rfl | (dsimp only; omega) | omega, by first | exact Nat.le_of_ble_eq_true rfl | (dsimp only; omega) | omega⟩ rfl (fun r9 h9 H locs hp hw => ?_)
      obtain ⟨r8, h8⟩ := hp
      subst r8
      subst h8
      refine W.eq (g2 := F0 m 43 ls [.int (zb (mayT R p i (fKi (S.2 i)) (fGr (S.2 i))))]) rfl ?_
      refine lv_if_ne (tgt := 48) hx hb d_X_add_43 (by decide) (fun c_43 => ?_) (fun c_43 => ?_)
      · -- 43: True
        have c_43 : (mayT R p i (fKi (S.2 i)) (fGr (S.2 i))) = true := zb_t c_43
        by_cases hfull : R.1 < 2000
        · -- room True
          have eO : okAdd S R (nI p) (nI i) (!decide (fTy (S.2 (nI i).toNatClampNeg) = 3) && (!decide (fTy (S.2 (nI i).toNatClampNeg) = 1) || decide (v = v.toInt32.toInt64))) = true := by rw [okAdd_in hi hp hs8 hR2, nI_clamp (show i < 2 ^ 31 by omega), decide_eq_false c_21, c_30, c_43, decide_eq_true hfull]; rfl
          have eW : oAdd S R (nI p) (nI i) v = (nI R.1, addN R (nI i, nI p, keptN (fTy (S.2 i)) v, [])) := by unfold oAdd; rw [eO, nI_clamp (show i < 2 ^ 31 by omega)]; rfl
          refine lv_aload_n hx hb d_X_add_48 rfl (lv_at hl 1 rfl) ?_
          refine z_get hx hb hts (z_lay i_X) hown hK hw hxo rfl 3 (by decide) (z_in k_149 rfl) (fun _ h9 => h9) rfl d_X_add_49 ?_
          refine lv_iload_n hx hb d_X_add_52 rfl (lv_at hl 2 rfl) ?_
          refine lv_aload hx hb d_X_add_53 (lv_at hl 0 rfl) ?_
          refine lv_aload hx hb d_X_add_55 (lv_at hl 0 rfl) ?_
          refine lv_lload_n hx hb d_X_add_57 rfl (lv_at hl 4 rfl) ?_
          refine z_callV (n := 1) (As := [.long v]) (rest := [.ref (adS i), .int (nI p), .ref pr]) ⟨hx, hb, hml, hown, hts⟩ (c_Field_kept (v := v) l g h hff9) (z_in k_633 rfl) (z_in k_17 rfl) (z_in k_630 rfl) (z_in k_631 rfl) (z_in k_632 rfl) (by decide +kernel) ⟨by first | exact Nat.le_of_ble_eq_true rfl | (dsimp only; omega) | omega, by first | exact Nat.le_of_ble_eq_true rfl | (dsimp only; omega) | omega⟩ hK hE hw hA rfl hff9 rfl hl.1 (Nat.le_of_ble_eq_true rfl) d_X_add_58 ⟨by first | exact Nat.le_of_ble_eq_true rfl | (dsimp only; omega) | omega, by first | exact Nat.le_of_ble_eq_true rfl | (dsimp only; omega) | omega⟩ rfl (fun r9 h9 H locs hp hw => ?_)
          obtain ⟨r8, h8⟩ := hp
          subst r8
          subst h8
          refine W.eq (g2 := F0 m 61 ls [.long (keptN (fTy (S.2 i)) v), .ref (adS i), .int (nI p), .ref pr]) rfl ?_
          refine z_nobX hx hb hE hw hown hts (z_in k_634 rfl) d_X_add_61 ?_
          refine z_callV (n := 4) (As := [.int (nI p), .ref (adS i), .long (keptN (fTy (S.2 i)) v), .ref (g.2.2 0)]) (rest := []) ⟨hx, hb, hml, hown, hts⟩ (c_append0 (S := S) l g h hff9 hN hpa hp hfull (by omega) (by omega) hr0 rfl (by omega)) (z_in k_559 rfl) (z_in k_5 rfl) (z_in k_635 rfl) (z_in k_557 rfl) (z_in k_558 rfl) (by decide +kernel) ⟨by first | exact Nat.le_of_ble_eq_true rfl | (dsimp only; omega) | omega, by first | exact Nat.le_of_ble_eq_true rfl | (dsimp only; omega) | omega⟩ hK hE hw hA rfl hpr rfl hl.1 (Nat.le_of_ble_eq_true rfl) d_X_add_64 ⟨by first | exact Nat.le_of_ble_eq_true rfl | (dsimp only; omega) | omega, by first | exact Nat.le_of_ble_eq_true rfl | (dsimp only; omega) | omega⟩ rfl (fun r9 h9 H locs hp hw => ?_)
          obtain ⟨nn, r8, n8, pa8, k8⟩ := hp
          subst r8
          obtain ⟨h1, e7⟩ : ∃ x9, x9 = h9 := ⟨_, rfl⟩
          subst e7
          have g1_xo : h1 xo = some ((1, 0), .inr (0, [.ref tp, .ref ow, .ref kn, .ref pr, .ref sp])) := k8 _ _ _ hxo (by simp; try omega)
          have g1_tp : h1 tp = some ((2, 0), .inr (1, [.ref b, .int (nI T.length)])) := k8 _ _ _ htp0 (by simp; try omega)
          have g1_b : h1 b = some ((3, 0), .inl (g.2.1 0, 4000, .inl f)) := k8 _ _ _ hb0 (by simp; try omega)
          have g1_kn : h1 kn = some ((r, 0), .inr (3, [.ref fa9, .ref ca, .int (nI S.1), .int (nI (cc S)), .int (nI (rq S (-1)))])) := k8 _ _ _ hkn (by simp; try omega)
          have g1_adS_i : h1 (adS i) = some ((r + 1, i), .inr (4, [.int (nI i), .int (fKi (S.2 i)), .int (fTy (S.2 i)), .int (fGr (S.2 i)), .ref (na i), .int (fCo (S.2 i)), .int (fRe (S.2 i)), .int (fDe (S.2 i)), .int (nI (rq S (nI i)))])) := k8 _ _ _ hff9 (by simp; try omega)
          have g1_na_i : h1 (na i) = some ((r + 2, i), .inl (g.2.1 0, (fNm (S.2 i)).length, .inl (nf i))) := k8 _ _ _ hnn9 (by simp; try omega)
          have k82 := k8.K (R := fun y => y = mr ∨ y = mr + 1) (fun t z => by rcases z with z | z | z | z <;> simp [z])
          have kk1 : z_K (fun y => y = 2 ∨ y = 6 ∨ y = mr ∨ y = mr + 1) h h1 := kk0.tr (k82.mono (fun y z => by omega))
          refine W.eq (g2 := F0 m 67 ls [.int (nI R.1)]) rfl ?_
          exact z_iret hx hb hr hlocks hw (by refine ⟨by rw [eW], ?_, kk1.mono (fun y z => by unfold KXr; omega)⟩; rw [eW]; exact ⟨tp, b, ow, kn, pr, sp, r, mr, mr2, ra2, f, rf2, a2, c2, g1_xo, g1_tp, g1_b, ⟨hfb, hT4, hT⟩, ⟨hO.k kk1 (by omega) (by omega), hj⟩, ⟨⟨_, _, _, _, _, _, _, hS.k kk1 (by omega) (by omega) (by omega)⟩, hr0, hgr⟩, ⟨⟨_, _, _, _, _, n8⟩, pa8⟩, ⟨kk1 _ _ _ hsp (by dsimp only; omega), kk1 _ _ _ hra2 (by dsimp only; omega)⟩, hmr⟩) (by decide) (by decide) d_X_add_67
        · -- room False
          have eO : okAdd S R (nI p) (nI i) (!decide (fTy (S.2 (nI i).toNatClampNeg) = 3) && (!decide (fTy (S.2 (nI i).toNatClampNeg) = 1) || decide (v = v.toInt32.toInt64))) = false := by rw [okAdd_in hi hp hs8 hR2, nI_clamp (show i < 2 ^ 31 by omega), decide_eq_false c_21, c_30, c_43, decide_eq_false hfull]; rfl
          have eW : oAdd S R (nI p) (nI i) v = (-1, R) := by unfold oAdd; rw [eO]; rfl
          refine lv_aload_n hx hb d_X_add_48 rfl (lv_at hl 1 rfl) ?_
          refine z_get hx hb hts (z_lay i_X) hown hK hw hxo rfl 3 (by decide) (z_in k_149 rfl) (fun _ h9 => h9) rfl d_X_add_49 ?_
          refine lv_iload_n hx hb d_X_add_52 rfl (lv_at hl 2 rfl) ?_
          refine lv_aload hx hb d_X_add_53 (lv_at hl 0 rfl) ?_
          refine lv_aload hx hb d_X_add_55 (lv_at hl 0 rfl) ?_
          refine lv_lload_n hx hb d_X_add_57 rfl (lv_at hl 4 rfl) ?_
          refine z_callV (n := 1) (As := [.long v]) (rest := [.ref (adS i), .int (nI p), .ref pr]) ⟨hx, hb, hml, hown, hts⟩ (c_Field_kept (v := v) l g h hff9) (z_in k_633 rfl) (z_in k_17 rfl) (z_in k_630 rfl) (z_in k_631 rfl) (z_in k_632 rfl) (by decide +kernel) ⟨by first | exact Nat.le_of_ble_eq_true rfl | (dsimp only; omega) | omega, by first | exact Nat.le_of_ble_eq_true rfl | (dsimp only; omega) | omega⟩ hK hE hw hA rfl hff9 rfl hl.1 (Nat.le_of_ble_eq_true rfl) d_X_add_58 ⟨by first | exact Nat.le_of_ble_eq_true rfl | (dsimp only; omega) | omega, by first | exact Nat.le_of_ble_eq_true rfl | (dsimp only; omega) | omega⟩ rfl (fun r9 h9 H locs hp hw => ?_)
          obtain ⟨r8, h8⟩ := hp
          subst r8
          subst h8
          refine W.eq (g2 := F0 m 61 ls [.long (keptN (fTy (S.2 i)) v), .ref (adS i), .int (nI p), .ref pr]) rfl ?_
          refine z_nobX hx hb hE hw hown hts (z_in k_634 rfl) d_X_add_61 ?_
          refine z_callV (n := 4) (As := [.int (nI p), .ref (adS i), .long (keptN (fTy (S.2 i)) v), .ref (g.2.2 0)]) (rest := []) ⟨hx, hb, hml, hown, hts⟩ (c_append_full0 (S := S) l g h hff9 hN hp (Or.inl hfull)) (z_in k_559 rfl) (z_in k_5 rfl) (z_in k_635 rfl) (z_in k_557 rfl) (z_in k_558 rfl) (by decide +kernel) ⟨by first | exact Nat.le_of_ble_eq_true rfl | (dsimp only; omega) | omega, by first | exact Nat.le_of_ble_eq_true rfl | (dsimp only; omega) | omega⟩ hK hE hw hA rfl hpr rfl hl.1 (Nat.le_of_ble_eq_true rfl) d_X_add_64 ⟨by first | exact Nat.le_of_ble_eq_true rfl | (dsimp only; omega) | omega, by first | exact Nat.le_of_ble_eq_true rfl | (dsimp only; omega) | omega⟩ rfl (fun r9 h9 H locs hp hw => ?_)
          obtain ⟨r8, h8⟩ := hp
          subst r8
          subst h8
          refine W.eq (g2 := F0 m 67 ls [.int (-1)]) rfl ?_
          exact z_iret hx hb hr hlocks hw (by refine ⟨by rw [eW], ?_, z_K.rf⟩; rw [eW]; exact hX) (by decide) (by decide) d_X_add_67
      · -- 43: False
        have c_43 : (mayT R p i (fKi (S.2 i)) (fGr (S.2 i))) = false := zb_f c_43
        have eO : okAdd S R (nI p) (nI i) (!decide (fTy (S.2 (nI i).toNatClampNeg) = 3) && (!decide (fTy (S.2 (nI i).toNatClampNeg) = 1) || decide (v = v.toInt32.toInt64))) = false := by rw [okAdd_in hi hp hs8 hR2, nI_clamp (show i < 2 ^ 31 by omega)]; rw [c_43]; simp
        have eW : oAdd S R (nI p) (nI i) v = (-1, R) := by unfold oAdd; rw [eO]; rfl
        refine lv_iconst (v := (-1)) hx hb d_X_add_46 (by decide) ?_
        exact z_iret hx hb hr hlocks hw (by refine ⟨by rw [eW], ?_, z_K.rf⟩; rw [eW]; exact hX) (by decide) (by decide) d_X_add_47

theorem x_add (l : Launch) (g : z_G) (h : z_H) {xo : Nat} {T : List Nat} {S : Sch} {R : Rec} {O : List Nat} {j : Nat} {pa a : Int32} {v : Int64} (hX : XAt g h xo T S R O j) : z_C l y_X_add prog_1_method_11_code 6 (Option.some Jvm.ClassFile.FieldType.int) 4 120 1 7 g [.ref xo, .int pa, .int a, .long v] h (fun x h1 => XPt g h x (.int (oAdd S R pa a v).1) h1 xo T S (oAdd S R pa a v).2 O j) := by
  have hb : S.1 < 2 ^ 31 ∧ R.1 < 2 ^ 31 := by obtain ⟨tp, b, ow, kn, pr, sp, r, mr, mr2, ra2, f, rf2, a2, c2, hxo, htp0, hb0, ⟨hfb, hT4, hT⟩, ⟨hO, hj⟩, ⟨⟨fa9, ca, adS, na, ff, cf, nf, hS⟩, hr0, hgr⟩, ⟨⟨ra, ad, tx, rf, tf, hN⟩, hpa⟩, ⟨hsp, hra2⟩, hmr⟩ := id hX; have hs8 : S.1 ≤ 128 := hS.2.2.2.2.2.2.2.1; have hR2 : R.1 ≤ 2000 := hN.2.2.2.2.2.1; omega
  rcases ix_cases a hb.1 with ho | ⟨i, hi, rfl⟩
  · exact x_add_nof l g h hX ho
  · rcases ix_cases pa hb.2 with ho | ⟨p, hp, rfl⟩
    · exact x_add_nop l g h hX hi ho
    · exact x_add_in l g h hX hi hp

set_option maxHeartbeats 300000 in
set_option maxRecDepth 100000 in
theorem x_addText_few (l : Launch) (g : z_G) (h : z_H) {xo : Nat} {T : List Nat} {S : Sch} {R : Rec} {O : List Nat} {j : Nat} {pa a n : Int32}  (hX : XAt g h xo T S R O j) (ho : n < 0 ∨ nI T.length < n) : z_C l y_X_addText prog_1_method_12_code 6 (Option.some Jvm.ClassFile.FieldType.int) 5 160 3 280 g [.ref xo, .int pa, .int a, .int n] h (fun x h1 => x = some (.int (-2)) ∧ h = h1) := by
  refine z_C.of (by decide) (Nat.le_of_ble_eq_true rfl) (fun pg en s m below meth cd A ls hx hb hml hr hts hown hlocks hnm hK hE hA hw hl => ?_)
  have hl : lv_has ls 6 [(0, .ref xo), (1, .int pa), (2, .int a), (3, .int n)] := hl
  obtain ⟨tp, b, ow, kn, pr, sp, r, mr, mr2, ra2, f, rf2, a2, c2, hxo, htp0, hb0, ⟨hfb, hT4, hT⟩, ⟨hO, hj⟩, ⟨⟨fa9, ca, adS, na, ff, cf, nf, hS⟩, hr0, hgr⟩, ⟨⟨ra, ad, tx, rf, tf, hN⟩, hpa⟩, ⟨hsp, hra2⟩, hmr⟩ := id hX
  have hkn := hS.1
  have hpr := hN.1
  have hs8 : S.1 ≤ 128 := hS.2.2.2.2.2.2.2.1
  have hcc8 : cc S ≤ 64 := hS.2.2.2.2.2.2.2.2
  have hR2 : R.1 ≤ 2000 := hN.2.2.2.2.2.1
  refine lv_aload_n hx hb d_X_addText_0 rfl (lv_at hl 0 rfl) ?_
  refine z_get hx hb hts (z_lay i_X) hown hK hw hxo rfl 0 (by decide) (z_in k_146 rfl) (fun _ h9 => h9) rfl d_X_addText_1 ?_
  refine lv_iload_n hx hb d_X_addText_4 rfl (lv_at hl 3 rfl) ?_
  refine z_callV (n := 1) (As := [.int n]) (rest := []) ⟨hx, hb, hml, hown, hts⟩ (c_Tape_cut_few l g h htp0 hT4 ho) (z_in k_181 rfl) (z_in k_2 rfl) (z_in k_178 rfl) (z_in k_179 rfl) (z_in k_180 rfl) (by decide +kernel) ⟨by first | exact Nat.le_of_ble_eq_true rfl | (dsimp only; omega) | omega, by first | exact Nat.le_of_ble_eq_true rfl | (dsimp only; omega) | omega⟩ hK hE hw hA rfl htp0 rfl hl.1 (Nat.le_of_ble_eq_true rfl) d_X_addText_5 ⟨by first | exact Nat.le_of_ble_eq_true rfl | (dsimp only; omega) | omega, by first | exact Nat.le_of_ble_eq_true rfl | (dsimp only; omega) | omega⟩ rfl (fun r9 h9 H locs hp hw => ?_)
  obtain ⟨r8, h8⟩ := hp
  subst r8
  subst h8
  refine W.eq (g2 := F0 m 8 ls [.null]) rfl ?_
  refine lv_astoreN (lv' := [(4, .null), (0, .ref xo), (1, .int pa), (2, .int a), (3, .int n)]) hx hb d_X_addText_8 hl (by decide) rfl (fun ls hl => ?_)
  refine lv_aloadN hx hb d_X_addText_10 (lv_at hl 0 rfl) ?_
  refine lv_ifnonnullN hx hb d_X_addText_12 ?_
  refine lv_bipush (v := (-2)) hx hb d_X_addText_15 (by decide) ?_
  exact z_iret hx hb hr hlocks hw ⟨rfl, rfl⟩ (by decide) (by decide) d_X_addText_17

set_option maxHeartbeats 300000 in
set_option maxRecDepth 100000 in
theorem x_addText_nof (l : Launch) (g : z_G) (h : z_H) {xo : Nat} {T : List Nat} {S : Sch} {R : Rec} {O : List Nat} {j : Nat} {pa a : Int32} {i9 : Nat}  (hX : XAt g h xo T S R O j) (hi9 : i9 ≤ T.length) (ho : a < 0 ∨ nI S.1 ≤ a) : z_C l y_X_addText prog_1_method_12_code 6 (Option.some Jvm.ClassFile.FieldType.int) 5 160 3 280 g [.ref xo, .int pa, .int a, .int (nI i9)] h (fun x h1 => XPt g h x (.int (oAddText T S R pa a (nI i9)).1) h1 xo (oAddText T S R pa a (nI i9)).2.1 S (oAddText T S R pa a (nI i9)).2.2 O j) := by
  refine z_C.of (by decide) (Nat.le_of_ble_eq_true rfl) (fun pg en s m below meth cd A ls hx hb hml hr hts hown hlocks hnm hK hE hA hw hl => ?_)
  have hl : lv_has ls 6 [(0, .ref xo), (1, .int pa), (2, .int a), (3, .int (nI i9))] := hl
  obtain ⟨tp, b, ow, kn, pr, sp, r, mr, mr2, ra2, f, rf2, a2, c2, hxo, htp0, hb0, ⟨hfb, hT4, hT⟩, ⟨hO, hj⟩, ⟨⟨fa9, ca, adS, na, ff, cf, nf, hS⟩, hr0, hgr⟩, ⟨⟨ra, ad, tx, rf, tf, hN⟩, hpa⟩, ⟨hsp, hra2⟩, hmr⟩ := id hX
  have hkn := hS.1
  have hpr := hN.1
  have hs8 : S.1 ≤ 128 := hS.2.2.2.2.2.2.2.1
  have hcc8 : cc S ≤ 64 := hS.2.2.2.2.2.2.2.2
  have hR2 : R.1 ≤ 2000 := hN.2.2.2.2.2.1
  have kk0 : z_K (fun y => y = 2 ∨ y = 6) h h := z_K.rf
  refine lv_aload_n hx hb d_X_addText_0 rfl (lv_at hl 0 rfl) ?_
  refine z_get hx hb hts (z_lay i_X) hown hK hw hxo rfl 0 (by decide) (z_in k_146 rfl) (fun _ h9 => h9) rfl d_X_addText_1 ?_
  refine lv_iload_n hx hb d_X_addText_4 rfl (lv_at hl 3 rfl) ?_
  refine z_callV (n := 1) (As := [.int (nI i9)]) (rest := []) ⟨hx, hb, hml, hown, hts⟩ (c_Tape_cut (k := i9) l g h htp0 hT4 hi9) (z_in k_181 rfl) (z_in k_2 rfl) (z_in k_178 rfl) (z_in k_179 rfl) (z_in k_180 rfl) (by decide +kernel) ⟨by first | exact Nat.le_of_ble_eq_true rfl | (dsimp only; omega) | omega, by first | exact Nat.le_of_ble_eq_true rfl | (dsimp only; omega) | omega⟩ hK hE hw hA rfl htp0 rfl hl.1 (Nat.le_of_ble_eq_true rfl) d_X_addText_5 ⟨by first | exact Nat.le_of_ble_eq_true rfl | (dsimp only; omega) | omega, by first | exact Nat.le_of_ble_eq_true rfl | (dsimp only; omega) | omega⟩ rfl (fun r9 h9 H locs hp hw => ?_)
  obtain ⟨sc, r8, hscC, htpC, k8⟩ := hp
  subst r8
  obtain ⟨h1, e7⟩ : ∃ x9, x9 = h9 := ⟨_, rfl⟩
  subst e7
  have g1_xo : h1 xo = some ((1, 0), .inr (0, [.ref tp, .ref ow, .ref kn, .ref pr, .ref sp])) := k8 _ _ _ hxo (by simp; try omega)
  have g1_b : h1 b = some ((3, 0), .inl (g.2.1 0, 4000, .inl f)) := k8 _ _ _ hb0 (by simp; try omega)
  have g1_kn : h1 kn = some ((r, 0), .inr (3, [.ref fa9, .ref ca, .int (nI S.1), .int (nI (cc S)), .int (nI (rq S (-1)))])) := k8 _ _ _ hkn (by simp; try omega)
  have g1_pr : h1 pr = some ((mr, 0), .inr (5, [.ref ra, .int (nI R.1), .int (nI (tbC R.2 R.1))])) := k8 _ _ _ hpr (by simp; try omega)
  have kk1 : z_K (fun y => y = 2 ∨ y = 6) h h1 := kk0.tr (k8.mono (fun y z => by rcases z with z | z <;> simp [z]))
  refine W.eq (g2 := F0 m 8 ls [.ref sc]) rfl ?_
  refine lv_astore (lv' := [(4, .ref sc), (0, .ref xo), (1, .int pa), (2, .int a), (3, .int (nI i9))]) hx hb d_X_addText_8 hl (by decide) rfl (fun ls hl => ?_)
  refine lv_aload hx hb d_X_addText_10 (lv_at hl 0 rfl) ?_
  refine lv_ifnonnull (tgt := 18) hx hb d_X_addText_12 (by decide) ?_
  refine lv_aload_n hx hb d_X_addText_18 rfl (lv_at hl 1 rfl) ?_
  refine z_get hx hb hts (z_lay i_X) hown hK hw g1_xo rfl 2 (by decide) (z_in k_148 rfl) (fun _ h9 => h9) rfl d_X_addText_19 ?_
  refine lv_iload_n hx hb d_X_addText_22 rfl (lv_at hl 3 rfl) ?_
  refine z_callV (n := 1) (As := [.int a]) (rest := []) ⟨hx, hb, hml, hown, hts⟩ (c_Schema_fieldAt_no l g h1 (hS.k kk1 (by omega) (by omega) (by omega)) ho) (z_in k_356 rfl) (z_in k_4 rfl) (z_in k_467 rfl) (z_in k_354 rfl) (z_in k_355 rfl) (by decide +kernel) ⟨by first | exact Nat.le_of_ble_eq_true rfl | (dsimp only; omega) | omega, by first | exact Nat.le_of_ble_eq_true rfl | (dsimp only; omega) | omega⟩ hK hE hw hA rfl g1_kn rfl hl.1 (Nat.le_of_ble_eq_true rfl) d_X_addText_23 ⟨by first | exact Nat.le_of_ble_eq_true rfl | (dsimp only; omega) | omega, by first | exact Nat.le_of_ble_eq_true rfl | (dsimp only; omega) | omega⟩ rfl (fun r9 h9 H locs hp hw => ?_)
  obtain ⟨r8, h8⟩ := hp
  subst r8
  subst h8
  refine W.eq (g2 := F0 m 26 ls [.null]) rfl ?_
  refine lv_astoreN (lv' := [(5, .null), (4, .ref sc), (0, .ref xo), (1, .int pa), (2, .int a), (3, .int (nI i9))]) hx hb d_X_addText_26 hl (by decide) rfl (fun ls hl => ?_)
  refine lv_aloadN hx hb d_X_addText_28 (lv_at hl 0 rfl) ?_
  refine lv_ifnullN (tgt := 62) hx hb d_X_addText_30 (by decide) ?_
  have eW : oAddText T S R pa a (nI i9) = (-1, [], R) := by unfold oAddText; rw [if_neg (not_few hi9 hT4), okAdd_nof ho]; rfl
  refine lv_iconst (v := (-1)) hx hb d_X_addText_62 (by decide) ?_
  exact z_iret hx hb hr hlocks hw (by refine ⟨by rw [eW], ?_, kk1.mono (fun y z => by unfold KXr; omega)⟩; rw [eW]; exact ⟨tp, b, ow, kn, pr, sp, r, mr, mr2, ra2, f, rf2, a2, c2, g1_xo, htpC, g1_b, ⟨hfb, Nat.zero_le _, fun k hk => absurd hk (Nat.not_lt_zero _)⟩, ⟨hO.k kk1 (by omega) (by omega), hj⟩, ⟨⟨_, _, _, _, _, _, _, hS.k kk1 (by omega) (by omega) (by omega)⟩, hr0, hgr⟩, ⟨⟨_, _, _, _, _, hN.k kk1 (by omega) (by omega) (by omega)⟩, hpa⟩, ⟨kk1 _ _ _ hsp (by dsimp only; omega), kk1 _ _ _ hra2 (by dsimp only; omega)⟩, hmr⟩) (by decide) (by decide) d_X_addText_63

set_option maxHeartbeats 300000 in
set_option maxRecDepth 100000 in
theorem x_addText_nop (l : Launch) (g : z_G) (h : z_H) {xo : Nat} {T : List Nat} {S : Sch} {R : Rec} {O : List Nat} {j : Nat} {pa : Int32} {i i9 : Nat}  (hX : XAt g h xo T S R O j) (hi9 : i9 ≤ T.length) (hi : i < S.1) (hp : pa < 0 ∨ nI R.1 ≤ pa) : z_C l y_X_addText prog_1_method_12_code 6 (Option.some Jvm.ClassFile.FieldType.int) 5 160 3 280 g [.ref xo, .int pa, .int (nI i), .int (nI i9)] h (fun x h1 => XPt g h x (.int (oAddText T S R pa (nI i) (nI i9)).1) h1 xo (oAddText T S R pa (nI i) (nI i9)).2.1 S (oAddText T S R pa (nI i) (nI i9)).2.2 O j) := by
  refine z_C.of (by decide) (Nat.le_of_ble_eq_true rfl) (fun pg en s m below meth cd A ls hx hb hml hr hts hown hlocks hnm hK hE hA hw hl => ?_)
  have hl : lv_has ls 6 [(0, .ref xo), (1, .int pa), (2, .int (nI i)), (3, .int (nI i9))] := hl
  obtain ⟨tp, b, ow, kn, pr, sp, r, mr, mr2, ra2, f, rf2, a2, c2, hxo, htp0, hb0, ⟨hfb, hT4, hT⟩, ⟨hO, hj⟩, ⟨⟨fa9, ca, adS, na, ff, cf, nf, hS⟩, hr0, hgr⟩, ⟨⟨ra, ad, tx, rf, tf, hN⟩, hpa⟩, ⟨hsp, hra2⟩, hmr⟩ := id hX
  have hkn := hS.1
  have hpr := hN.1
  have hs8 : S.1 ≤ 128 := hS.2.2.2.2.2.2.2.1
  have hcc8 : cc S ≤ 64 := hS.2.2.2.2.2.2.2.2
  have hR2 : R.1 ≤ 2000 := hN.2.2.2.2.2.1
  have hff9 := (hS.2.2.2.1 i hi).2
  have hnn9 := hS.2.2.2.2.1 i hi
  have hnb9 := hS.2.2.2.2.2.1 i hi
  have kk0 : z_K (fun y => y = 2 ∨ y = 6) h h := z_K.rf
  refine lv_aload_n hx hb d_X_addText_0 rfl (lv_at hl 0 rfl) ?_
  refine z_get hx hb hts (z_lay i_X) hown hK hw hxo rfl 0 (by decide) (z_in k_146 rfl) (fun _ h9 => h9) rfl d_X_addText_1 ?_
  refine lv_iload_n hx hb d_X_addText_4 rfl (lv_at hl 3 rfl) ?_
  refine z_callV (n := 1) (As := [.int (nI i9)]) (rest := []) ⟨hx, hb, hml, hown, hts⟩ (c_Tape_cut (k := i9) l g h htp0 hT4 hi9) (z_in k_181 rfl) (z_in k_2 rfl) (z_in k_178 rfl) (z_in k_179 rfl) (z_in k_180 rfl) (by decide +kernel) ⟨by first | exact Nat.le_of_ble_eq_true rfl | (dsimp only; omega) | omega, by first | exact Nat.le_of_ble_eq_true rfl | (dsimp only; omega) | omega⟩ hK hE hw hA rfl htp0 rfl hl.1 (Nat.le_of_ble_eq_true rfl) d_X_addText_5 ⟨by first | exact Nat.le_of_ble_eq_true rfl | (dsimp only; omega) | omega, by first | exact Nat.le_of_ble_eq_true rfl | (dsimp only; omega) | omega⟩ rfl (fun r9 h9 H locs hp hw => ?_)
  obtain ⟨sc, r8, hscC, htpC, k8⟩ := hp
  subst r8
  obtain ⟨h1, e7⟩ : ∃ x9, x9 = h9 := ⟨_, rfl⟩
  subst e7
  have g1_xo : h1 xo = some ((1, 0), .inr (0, [.ref tp, .ref ow, .ref kn, .ref pr, .ref sp])) := k8 _ _ _ hxo (by simp; try omega)
  have g1_b : h1 b = some ((3, 0), .inl (g.2.1 0, 4000, .inl f)) := k8 _ _ _ hb0 (by simp; try omega)
  have g1_kn : h1 kn = some ((r, 0), .inr (3, [.ref fa9, .ref ca, .int (nI S.1), .int (nI (cc S)), .int (nI (rq S (-1)))])) := k8 _ _ _ hkn (by simp; try omega)
  have g1_pr : h1 pr = some ((mr, 0), .inr (5, [.ref ra, .int (nI R.1), .int (nI (tbC R.2 R.1))])) := k8 _ _ _ hpr (by simp; try omega)
  have g1_adS_i : h1 (adS i) = some ((r + 1, i), .inr (4, [.int (nI i), .int (fKi (S.2 i)), .int (fTy (S.2 i)), .int (fGr (S.2 i)), .ref (na i), .int (fCo (S.2 i)), .int (fRe (S.2 i)), .int (fDe (S.2 i)), .int (nI (rq S (nI i)))])) := k8 _ _ _ hff9 (by simp; try omega)
  have g1_na_i : h1 (na i) = some ((r + 2, i), .inl (g.2.1 0, (fNm (S.2 i)).length, .inl (nf i))) := k8 _ _ _ hnn9 (by simp; try omega)
  have kk1 : z_K (fun y => y = 2 ∨ y = 6) h h1 := kk0.tr (k8.mono (fun y z => by rcases z with z | z <;> simp [z]))
  refine W.eq (g2 := F0 m 8 ls [.ref sc]) rfl ?_
  refine lv_astore (lv' := [(4, .ref sc), (0, .ref xo), (1, .int pa), (2, .int (nI i)), (3, .int (nI i9))]) hx hb d_X_addText_8 hl (by decide) rfl (fun ls hl => ?_)
  refine lv_aload hx hb d_X_addText_10 (lv_at hl 0 rfl) ?_
  refine lv_ifnonnull (tgt := 18) hx hb d_X_addText_12 (by decide) ?_
  refine lv_aload_n hx hb d_X_addText_18 rfl (lv_at hl 1 rfl) ?_
  refine z_get hx hb hts (z_lay i_X) hown hK hw g1_xo rfl 2 (by decide) (z_in k_148 rfl) (fun _ h9 => h9) rfl d_X_addText_19 ?_
  refine lv_iload_n hx hb d_X_addText_22 rfl (lv_at hl 3 rfl) ?_
  refine z_callV (n := 1) (As := [.int (nI i)]) (rest := []) ⟨hx, hb, hml, hown, hts⟩ (c_Schema_fieldAt (i := i) l g h1 (hS.k kk1 (by omega) (by omega) (by omega)) hi) (z_in k_356 rfl) (z_in k_4 rfl) (z_in k_467 rfl) (z_in k_354 rfl) (z_in k_355 rfl) (by decide +kernel) ⟨by first | exact Nat.le_of_ble_eq_true rfl | (dsimp only; omega) | omega, by first | exact Nat.le_of_ble_eq_true rfl | (dsimp only; omega) | omega⟩ hK hE hw hA rfl g1_kn rfl hl.1 (Nat.le_of_ble_eq_true rfl) d_X_addText_23 ⟨by first | exact Nat.le_of_ble_eq_true rfl | (dsimp only; omega) | omega, by first | exact Nat.le_of_ble_eq_true rfl | (dsimp only; omega) | omega⟩ rfl (fun r9 h9 H locs hp hw => ?_)
  obtain ⟨r8, h8⟩ := hp
  subst r8
  subst h8
  refine W.eq (g2 := F0 m 26 ls [.ref (adS i)]) rfl ?_
  refine lv_astore (lv' := [(5, .ref (adS i)), (4, .ref sc), (0, .ref xo), (1, .int pa), (2, .int (nI i)), (3, .int (nI i9))]) hx hb d_X_addText_26 hl (by decide) rfl (fun ls hl => ?_)
  refine lv_aload hx hb d_X_addText_28 (lv_at hl 0 rfl) ?_
  refine lv_ifnull hx hb d_X_addText_30 ?_
  refine lv_aload hx hb d_X_addText_33 (lv_at hl 0 rfl) ?_
  refine z_getN hx hb hts (z_lay i_Field) hown hK hw g1_adS_i rfl 2 (by decide) hE.nest (z_inN k_412 rfl) (fun _ h9 => h9) rfl d_X_addText_35 ?_
  refine lv_iconst (v := 3) hx hb d_X_addText_38 (by decide) ?_
  refine lv_icmp_ne (tgt := 62) hx hb d_X_addText_39 (by decide) (fun c_39 => ?_) (fun c_39 => ?_)
  · -- 39: True
    have eW : oAddText T S R pa (nI i) (nI i9) = (-1, [], R) := by unfold oAddText; rw [if_neg (not_few hi9 hT4), okAdd_nop hp]; rfl
    refine lv_iconst (v := (-1)) hx hb d_X_addText_62 (by decide) ?_
    exact z_iret hx hb hr hlocks hw (by refine ⟨by rw [eW], ?_, kk1.mono (fun y z => by unfold KXr; omega)⟩; rw [eW]; exact ⟨tp, b, ow, kn, pr, sp, r, mr, mr2, ra2, f, rf2, a2, c2, g1_xo, htpC, g1_b, ⟨hfb, Nat.zero_le _, fun k hk => absurd hk (Nat.not_lt_zero _)⟩, ⟨hO.k kk1 (by omega) (by omega), hj⟩, ⟨⟨_, _, _, _, _, _, _, hS.k kk1 (by omega) (by omega) (by omega)⟩, hr0, hgr⟩, ⟨⟨_, _, _, _, _, hN.k kk1 (by omega) (by omega) (by omega)⟩, hpa⟩, ⟨kk1 _ _ _ hsp (by dsimp only; omega), kk1 _ _ _ hra2 (by dsimp only; omega)⟩, hmr⟩) (by decide) (by decide) d_X_addText_63
  · -- 39: False
    refine lv_iload_n hx hb d_X_addText_42 rfl (lv_at hl 5 rfl) ?_
    refine lv_sipush (v := 255) hx hb d_X_addText_43 (by decide) ?_
    refine lv_icmp_gt (tgt := 62) hx hb d_X_addText_46 (by decide) (fun c_46 => ?_) (fun c_46 => ?_)
    · -- 46: True
      have c_46 : 255 < i9 := (nI_ltI (a := 255) (b := i9) (by omega) (by omega)).mp c_46
      have eW : oAddText T S R pa (nI i) (nI i9) = (-1, [], R) := by unfold oAddText; rw [if_neg (not_few hi9 hT4), okAdd_nop hp]; rfl
      refine lv_iconst (v := (-1)) hx hb d_X_addText_62 (by decide) ?_
      exact z_iret hx hb hr hlocks hw (by refine ⟨by rw [eW], ?_, kk1.mono (fun y z => by unfold KXr; omega)⟩; rw [eW]; exact ⟨tp, b, ow, kn, pr, sp, r, mr, mr2, ra2, f, rf2, a2, c2, g1_xo, htpC, g1_b, ⟨hfb, Nat.zero_le _, fun k hk => absurd hk (Nat.not_lt_zero _)⟩, ⟨hO.k kk1 (by omega) (by omega), hj⟩, ⟨⟨_, _, _, _, _, _, _, hS.k kk1 (by omega) (by omega) (by omega)⟩, hr0, hgr⟩, ⟨⟨_, _, _, _, _, hN.k kk1 (by omega) (by omega) (by omega)⟩, hpa⟩, ⟨kk1 _ _ _ hsp (by dsimp only; omega), kk1 _ _ _ hra2 (by dsimp only; omega)⟩, hmr⟩) (by decide) (by decide) d_X_addText_63
    · -- 46: False
      have c_46 : ¬ (255 < i9) := fun z => c_46 ((nI_ltI (a := 255) (b := i9) (by omega) (by omega)).mpr z)
      refine lv_aload_n hx hb d_X_addText_49 rfl (lv_at hl 2 rfl) ?_
      refine z_get hx hb hts (z_lay i_X) hown hK hw g1_xo rfl 3 (by decide) (z_in k_149 rfl) (fun _ h9 => h9) rfl d_X_addText_50 ?_
      refine lv_iload_n hx hb d_X_addText_53 rfl (lv_at hl 3 rfl) ?_
      refine lv_aload hx hb d_X_addText_54 (lv_at hl 0 rfl) ?_
      refine z_callV (n := 2) (As := [.int pa, .ref (adS i)]) (rest := []) ⟨hx, hb, hml, hown, hts⟩ (c_mayTake_no l g h1 (hN.k kk1 (by omega) (by omega) (by omega)) hp) (z_in k_625 rfl) (z_in k_5 rfl) (z_in k_622 rfl) (z_in k_623 rfl) (z_in k_624 rfl) (by decide +kernel) ⟨by first | exact Nat.le_of_ble_eq_true rfl | (dsimp only; omega) | omega, by first | exact Nat.le_of_ble_eq_true rfl | (dsimp only; omega) | omega⟩ hK hE hw hA rfl g1_pr rfl hl.1 (Nat.le_of_ble_eq_true rfl) d_X_addText_56 ⟨by first | exact Nat.le_of_ble_eq_true rfl | (dsimp only; omega) | omega, by first | exact Nat.le_of_ble_eq_true rfl | (dsimp only; omega) | omega⟩ rfl (fun r9 h9 H locs hp hw => ?_)
      obtain ⟨r8, h8⟩ := hp
      subst r8
      subst h8
      refine W.eq (g2 := F0 m 59 ls [.int 0]) rfl ?_
      refine lv_if_ne (tgt := 64) hx hb d_X_addText_59 (by decide) (fun c_59 => ?_) (fun c_59 => ?_)
      · -- 59: True
        exact absurd (by decide) c_59
      · -- 59: False
        have eW : oAddText T S R pa (nI i) (nI i9) = (-1, [], R) := by unfold oAddText; rw [if_neg (not_few hi9 hT4), okAdd_nop hp]; rfl
        refine lv_iconst (v := (-1)) hx hb d_X_addText_62 (by decide) ?_
        exact z_iret hx hb hr hlocks hw (by refine ⟨by rw [eW], ?_, kk1.mono (fun y z => by unfold KXr; omega)⟩; rw [eW]; exact ⟨tp, b, ow, kn, pr, sp, r, mr, mr2, ra2, f, rf2, a2, c2, g1_xo, htpC, g1_b, ⟨hfb, Nat.zero_le _, fun k hk => absurd hk (Nat.not_lt_zero _)⟩, ⟨hO.k kk1 (by omega) (by omega), hj⟩, ⟨⟨_, _, _, _, _, _, _, hS.k kk1 (by omega) (by omega) (by omega)⟩, hr0, hgr⟩, ⟨⟨_, _, _, _, _, hN.k kk1 (by omega) (by omega) (by omega)⟩, hpa⟩, ⟨kk1 _ _ _ hsp (by dsimp only; omega), kk1 _ _ _ hra2 (by dsimp only; omega)⟩, hmr⟩) (by decide) (by decide) d_X_addText_63

set_option maxHeartbeats 300000 in
set_option maxRecDepth 100000 in
theorem x_addText_in (l : Launch) (g : z_G) (h : z_H) {xo : Nat} {T : List Nat} {S : Sch} {R : Rec} {O : List Nat} {j : Nat} {p i i9 : Nat}  (hX : XAt g h xo T S R O j) (hi9 : i9 ≤ T.length) (hi : i < S.1) (hp : p < R.1) : z_C l y_X_addText prog_1_method_12_code 6 (Option.some Jvm.ClassFile.FieldType.int) 5 160 3 280 g [.ref xo, .int (nI p), .int (nI i), .int (nI i9)] h (fun x h1 => XPt g h x (.int (oAddText T S R (nI p) (nI i) (nI i9)).1) h1 xo (oAddText T S R (nI p) (nI i) (nI i9)).2.1 S (oAddText T S R (nI p) (nI i) (nI i9)).2.2 O j) := by
  refine z_C.of (by decide) (Nat.le_of_ble_eq_true rfl) (fun pg en s m below meth cd A ls hx hb hml hr hts hown hlocks hnm hK hE hA hw hl => ?_)
  have hl : lv_has ls 6 [(0, .ref xo), (1, .int (nI p)), (2, .int (nI i)), (3, .int (nI i9))] := hl
  obtain ⟨tp, b, ow, kn, pr, sp, r, mr, mr2, ra2, f, rf2, a2, c2, hxo, htp0, hb0, ⟨hfb, hT4, hT⟩, ⟨hO, hj⟩, ⟨⟨fa9, ca, adS, na, ff, cf, nf, hS⟩, hr0, hgr⟩, ⟨⟨ra, ad, tx, rf, tf, hN⟩, hpa⟩, ⟨hsp, hra2⟩, hmr⟩ := id hX
  have hkn := hS.1
  have hpr := hN.1
  have hs8 : S.1 ≤ 128 := hS.2.2.2.2.2.2.2.1
  have hcc8 : cc S ≤ 64 := hS.2.2.2.2.2.2.2.2
  have hR2 : R.1 ≤ 2000 := hN.2.2.2.2.2.1
  have hff9 := (hS.2.2.2.1 i hi).2
  have hnn9 := hS.2.2.2.2.1 i hi
  have hnb9 := hS.2.2.2.2.2.1 i hi
  have htb16 : tbC R.2 R.1 ≤ 16000 := hN.2.2.2.2.2.2
  have kk0 : z_K (fun y => y = 2 ∨ y = 6) h h := z_K.rf
  refine lv_aload_n hx hb d_X_addText_0 rfl (lv_at hl 0 rfl) ?_
  refine z_get hx hb hts (z_lay i_X) hown hK hw hxo rfl 0 (by decide) (z_in k_146 rfl) (fun _ h9 => h9) rfl d_X_addText_1 ?_
  refine lv_iload_n hx hb d_X_addText_4 rfl (lv_at hl 3 rfl) ?_
  refine z_callV (n := 1) (As := [.int (nI i9)]) (rest := []) ⟨hx, hb, hml, hown, hts⟩ (c_Tape_cut (k := i9) l g h htp0 hT4 hi9) (z_in k_181 rfl) (z_in k_2 rfl) (z_in k_178 rfl) (z_in k_179 rfl) (z_in k_180 rfl) (by decide +kernel) ⟨by first | exact Nat.le_of_ble_eq_true rfl | (dsimp only; omega) | omega, by first | exact Nat.le_of_ble_eq_true rfl | (dsimp only; omega) | omega⟩ hK hE hw hA rfl htp0 rfl hl.1 (Nat.le_of_ble_eq_true rfl) d_X_addText_5 ⟨by first | exact Nat.le_of_ble_eq_true rfl | (dsimp only; omega) | omega, by first | exact Nat.le_of_ble_eq_true rfl | (dsimp only; omega) | omega⟩ rfl (fun r9 h9 H locs hp hw => ?_)
  obtain ⟨sc, r8, hscC, htpC, k8⟩ := hp
  subst r8
  obtain ⟨h1, e7⟩ : ∃ x9, x9 = h9 := ⟨_, rfl⟩
  subst e7
  have g1_xo : h1 xo = some ((1, 0), .inr (0, [.ref tp, .ref ow, .ref kn, .ref pr, .ref sp])) := k8 _ _ _ hxo (by simp; try omega)
  have g1_b : h1 b = some ((3, 0), .inl (g.2.1 0, 4000, .inl f)) := k8 _ _ _ hb0 (by simp; try omega)
  have g1_kn : h1 kn = some ((r, 0), .inr (3, [.ref fa9, .ref ca, .int (nI S.1), .int (nI (cc S)), .int (nI (rq S (-1)))])) := k8 _ _ _ hkn (by simp; try omega)
  have g1_pr : h1 pr = some ((mr, 0), .inr (5, [.ref ra, .int (nI R.1), .int (nI (tbC R.2 R.1))])) := k8 _ _ _ hpr (by simp; try omega)
  have g1_adS_i : h1 (adS i) = some ((r + 1, i), .inr (4, [.int (nI i), .int (fKi (S.2 i)), .int (fTy (S.2 i)), .int (fGr (S.2 i)), .ref (na i), .int (fCo (S.2 i)), .int (fRe (S.2 i)), .int (fDe (S.2 i)), .int (nI (rq S (nI i)))])) := k8 _ _ _ hff9 (by simp; try omega)
  have g1_na_i : h1 (na i) = some ((r + 2, i), .inl (g.2.1 0, (fNm (S.2 i)).length, .inl (nf i))) := k8 _ _ _ hnn9 (by simp; try omega)
  have kk1 : z_K (fun y => y = 2 ∨ y = 6) h h1 := kk0.tr (k8.mono (fun y z => by rcases z with z | z <;> simp [z]))
  refine W.eq (g2 := F0 m 8 ls [.ref sc]) rfl ?_
  refine lv_astore (lv' := [(4, .ref sc), (0, .ref xo), (1, .int (nI p)), (2, .int (nI i)), (3, .int (nI i9))]) hx hb d_X_addText_8 hl (by decide) rfl (fun ls hl => ?_)
  refine lv_aload hx hb d_X_addText_10 (lv_at hl 0 rfl) ?_
  refine lv_ifnonnull (tgt := 18) hx hb d_X_addText_12 (by decide) ?_
  refine lv_aload_n hx hb d_X_addText_18 rfl (lv_at hl 1 rfl) ?_
  refine z_get hx hb hts (z_lay i_X) hown hK hw g1_xo rfl 2 (by decide) (z_in k_148 rfl) (fun _ h9 => h9) rfl d_X_addText_19 ?_
  refine lv_iload_n hx hb d_X_addText_22 rfl (lv_at hl 3 rfl) ?_
  refine z_callV (n := 1) (As := [.int (nI i)]) (rest := []) ⟨hx, hb, hml, hown, hts⟩ (c_Schema_fieldAt (i := i) l g h1 (hS.k kk1 (by omega) (by omega) (by omega)) hi) (z_in k_356 rfl) (z_in k_4 rfl) (z_in k_467 rfl) (z_in k_354 rfl) (z_in k_355 rfl) (by decide +kernel) ⟨by first | exact Nat.le_of_ble_eq_true rfl | (dsimp only; omega) | omega, by first | exact Nat.le_of_ble_eq_true rfl | (dsimp only; omega) | omega⟩ hK hE hw hA rfl g1_kn rfl hl.1 (Nat.le_of_ble_eq_true rfl) d_X_addText_23 ⟨by first | exact Nat.le_of_ble_eq_true rfl | (dsimp only; omega) | omega, by first | exact Nat.le_of_ble_eq_true rfl | (dsimp only; omega) | omega⟩ rfl (fun r9 h9 H locs hp hw => ?_)
  obtain ⟨r8, h8⟩ := hp
  subst r8
  subst h8
  refine W.eq (g2 := F0 m 26 ls [.ref (adS i)]) rfl ?_
  refine lv_astore (lv' := [(5, .ref (adS i)), (4, .ref sc), (0, .ref xo), (1, .int (nI p)), (2, .int (nI i)), (3, .int (nI i9))]) hx hb d_X_addText_26 hl (by decide) rfl (fun ls hl => ?_)
  refine lv_aload hx hb d_X_addText_28 (lv_at hl 0 rfl) ?_
  refine lv_ifnull hx hb d_X_addText_30 ?_
  refine lv_aload hx hb d_X_addText_33 (lv_at hl 0 rfl) ?_
  refine z_getN hx hb hts (z_lay i_Field) hown hK hw g1_adS_i rfl 2 (by decide) hE.nest (z_inN k_412 rfl) (fun _ h9 => h9) rfl d_X_addText_35 ?_
  refine lv_iconst (v := 3) hx hb d_X_addText_38 (by decide) ?_
  refine lv_icmp_ne (tgt := 62) hx hb d_X_addText_39 (by decide) (fun c_39 => ?_) (fun c_39 => ?_)
  · -- 39: True
    have eO : okAdd S R (nI p) (nI i) (decide (fTy (S.2 (nI i).toNatClampNeg) = 3) && decide (nI i9 ≤ 255)) = false := by rw [okAdd_in hi hp hs8 hR2, nI_clamp (show i < 2 ^ 31 by omega)]; rw [decide_eq_false c_39]; rfl
    have eW : oAddText T S R (nI p) (nI i) (nI i9) = (-1, [], R) := by unfold oAddText; rw [if_neg (not_few hi9 hT4), eO]; rfl
    refine lv_iconst (v := (-1)) hx hb d_X_addText_62 (by decide) ?_
    exact z_iret hx hb hr hlocks hw (by refine ⟨by rw [eW], ?_, kk1.mono (fun y z => by unfold KXr; omega)⟩; rw [eW]; exact ⟨tp, b, ow, kn, pr, sp, r, mr, mr2, ra2, f, rf2, a2, c2, g1_xo, htpC, g1_b, ⟨hfb, Nat.zero_le _, fun k hk => absurd hk (Nat.not_lt_zero _)⟩, ⟨hO.k kk1 (by omega) (by omega), hj⟩, ⟨⟨_, _, _, _, _, _, _, hS.k kk1 (by omega) (by omega) (by omega)⟩, hr0, hgr⟩, ⟨⟨_, _, _, _, _, hN.k kk1 (by omega) (by omega) (by omega)⟩, hpa⟩, ⟨kk1 _ _ _ hsp (by dsimp only; omega), kk1 _ _ _ hra2 (by dsimp only; omega)⟩, hmr⟩) (by decide) (by decide) d_X_addText_63
  · -- 39: False
    refine lv_iload_n hx hb d_X_addText_42 rfl (lv_at hl 5 rfl) ?_
    refine lv_sipush (v := 255) hx hb d_X_addText_43 (by decide) ?_
    refine lv_icmp_gt (tgt := 62) hx hb d_X_addText_46 (by decide) (fun c_46 => ?_) (fun c_46 => ?_)
    · -- 46: True
      have c_46 : 255 < i9 := (nI_ltI (a := 255) (b := i9) (by omega) (by omega)).mp c_46
      have eO : okAdd S R (nI p) (nI i) (decide (fTy (S.2 (nI i).toNatClampNeg) = 3) && decide (nI i9 ≤ 255)) = false := by rw [okAdd_in hi hp hs8 hR2, nI_clamp (show i < 2 ^ 31 by omega)]; rw [decide_eq_false (show ¬ nI i9 ≤ 255 by rw [Int32.le_iff_toInt_le, nI_toInt (by omega)]; have : (255 : Int32).toInt = 255 := rfl; omega)]; simp
      have eW : oAddText T S R (nI p) (nI i) (nI i9) = (-1, [], R) := by unfold oAddText; rw [if_neg (not_few hi9 hT4), eO]; rfl
      refine lv_iconst (v := (-1)) hx hb d_X_addText_62 (by decide) ?_
      exact z_iret hx hb hr hlocks hw (by refine ⟨by rw [eW], ?_, kk1.mono (fun y z => by unfold KXr; omega)⟩; rw [eW]; exact ⟨tp, b, ow, kn, pr, sp, r, mr, mr2, ra2, f, rf2, a2, c2, g1_xo, htpC, g1_b, ⟨hfb, Nat.zero_le _, fun k hk => absurd hk (Nat.not_lt_zero _)⟩, ⟨hO.k kk1 (by omega) (by omega), hj⟩, ⟨⟨_, _, _, _, _, _, _, hS.k kk1 (by omega) (by omega) (by omega)⟩, hr0, hgr⟩, ⟨⟨_, _, _, _, _, hN.k kk1 (by omega) (by omega) (by omega)⟩, hpa⟩, ⟨kk1 _ _ _ hsp (by dsimp only; omega), kk1 _ _ _ hra2 (by dsimp only; omega)⟩, hmr⟩) (by decide) (by decide) d_X_addText_63
    · -- 46: False
      have c_46 : ¬ (255 < i9) := fun z => c_46 ((nI_ltI (a := 255) (b := i9) (by omega) (by omega)).mpr z)
      refine lv_aload_n hx hb d_X_addText_49 rfl (lv_at hl 2 rfl) ?_
      refine z_get hx hb hts (z_lay i_X) hown hK hw g1_xo rfl 3 (by decide) (z_in k_149 rfl) (fun _ h9 => h9) rfl d_X_addText_50 ?_
      refine lv_iload_n hx hb d_X_addText_53 rfl (lv_at hl 3 rfl) ?_
      refine lv_aload hx hb d_X_addText_54 (lv_at hl 0 rfl) ?_
      refine z_callV (n := 2) (As := [.int (nI p), .ref (adS i)]) (rest := []) ⟨hx, hb, hml, hown, hts⟩ (c_mayTake l g h1 g1_adS_i (hN.k kk1 (by omega) (by omega) (by omega)) hpa hp) (z_in k_625 rfl) (z_in k_5 rfl) (z_in k_622 rfl) (z_in k_623 rfl) (z_in k_624 rfl) (by decide +kernel) ⟨by first | exact Nat.le_of_ble_eq_true rfl | (dsimp only; omega) | omega, by first | exact Nat.le_of_ble_eq_true rfl | (dsimp only; omega) | omega⟩ hK hE hw hA rfl g1_pr rfl hl.1 (Nat.le_of_ble_eq_true rfl) d_X_addText_56 ⟨by first | exact Nat.le_of_ble_eq_true rfl | (dsimp only; omega) | omega, by first | exact Nat.le_of_ble_eq_true rfl | (dsimp only; omega) | omega⟩ rfl (fun r9 h9 H locs hp hw => ?_)
      obtain ⟨r8, h8⟩ := hp
      subst r8
      subst h8
      refine W.eq (g2 := F0 m 59 ls [.int (zb (mayT R p i (fKi (S.2 i)) (fGr (S.2 i))))]) rfl ?_
      refine lv_if_ne (tgt := 64) hx hb d_X_addText_59 (by decide) (fun c_59 => ?_) (fun c_59 => ?_)
      · -- 59: True
        have c_59 : (mayT R p i (fKi (S.2 i)) (fGr (S.2 i))) = true := zb_t c_59
        by_cases hfull : R.1 < 2000 ∧ tbC R.2 R.1 + i9 ≤ 16000
        · -- room True
          have htR : tbR R = tbC R.2 R.1 := rfl
          have eO : okAdd S R (nI p) (nI i) (decide (fTy (S.2 (nI i).toNatClampNeg) = 3) && decide (nI i9 ≤ 255)) = decide (R.1 < 2000) := by rw [okAdd_in hi hp hs8 hR2, nI_clamp (show i < 2 ^ 31 by omega), decide_eq_true c_39, c_59, decide_eq_true (show  nI i9 ≤ 255 by rw [Int32.le_iff_toInt_le, nI_toInt (by omega)]; have : (255 : Int32).toInt = 255 := rfl; omega)]; simp
          have eW : oAddText T S R (nI p) (nI i) (nI i9) = (nI R.1, [], addN R (nI i, nI p, 0, T.take i9)) := by unfold oAddText; rw [if_neg (not_few hi9 hT4), eO, nI_clamp (show i9 < 2 ^ 31 by omega), decide_eq_true hfull.1, decide_eq_true (show tbR R + i9 ≤ 16000 by omega)]; rfl
          refine lv_aload_n hx hb d_X_addText_64 rfl (lv_at hl 2 rfl) ?_
          refine z_get hx hb hts (z_lay i_X) hown hK hw g1_xo rfl 3 (by decide) (z_in k_149 rfl) (fun _ h9 => h9) rfl d_X_addText_65 ?_
          refine lv_iload_n hx hb d_X_addText_68 rfl (lv_at hl 3 rfl) ?_
          refine lv_aload hx hb d_X_addText_69 (lv_at hl 0 rfl) ?_
          refine lv_lconst (v := 0) hx hb d_X_addText_71 (by decide) ?_
          refine lv_aload hx hb d_X_addText_72 (lv_at hl 1 rfl) ?_
          refine lv_iconst (v := 0) hx hb d_X_addText_74 (by decide) ?_
          refine lv_iload_n hx hb d_X_addText_75 rfl (lv_at hl 5 rfl) ?_
          refine z_callV (n := 2) (As := [.int 0, .int (nI i9)]) (rest := [.long 0, .ref (adS i), .int (nI p), .ref pr]) ⟨hx, hb, hml, hown, hts⟩ (c_Scanner_copy (i := 0) (j := i9) (t := tT T) (tg := (mr + 2, R.1)) l g h1 hscC g1_b (by omega) (by omega) (by omega) (by omega) (by omega) hfb) (z_in k_365 rfl) (z_in k_8 rfl) (z_in k_640 rfl) (z_in k_363 rfl) (z_in k_364 rfl) (by decide +kernel) ⟨by first | exact Nat.le_of_ble_eq_true rfl | (dsimp only; omega) | omega, by first | exact Nat.le_of_ble_eq_true rfl | (dsimp only; omega) | omega⟩ hK hE hw hA rfl hscC rfl hl.1 (Nat.le_of_ble_eq_true rfl) d_X_addText_76 ⟨by first | exact Nat.le_of_ble_eq_true rfl | (dsimp only; omega) | omega, by first | exact Nat.le_of_ble_eq_true rfl | (dsimp only; omega) | omega⟩ rfl (fun r9 h9 H locs hp hw => ?_)
          obtain ⟨tq, fq, r8, n_tq, c8, hh2⟩ := hp
          subst r8
          have lt9 : (T.take i9).length = i9 := by rw [List.length_take]; omega
          rw [show i9 - 0 = (T.take i9).length by omega] at hh2
          obtain ⟨h2, e6⟩ : ∃ x9, x9 = h9 := ⟨_, rfl⟩
          subst e6
          have ne_xo_tq : z_NE xo tq := (show xo ≠ tq from fun z => by have z2 := g1_xo; rw [z, n_tq] at z2; cases z2)
          have ne_tp_tq : z_NE tp tq := (show tp ≠ tq from fun z => by have z2 := htpC; rw [z, n_tq] at z2; cases z2)
          have ne_b_tq : z_NE b tq := (show b ≠ tq from fun z => by have z2 := g1_b; rw [z, n_tq] at z2; cases z2)
          have ne_kn_tq : z_NE kn tq := (show kn ≠ tq from fun z => by have z2 := g1_kn; rw [z, n_tq] at z2; cases z2)
          have ne_pr_tq : z_NE pr tq := (show pr ≠ tq from fun z => by have z2 := g1_pr; rw [z, n_tq] at z2; cases z2)
          have ne_adS_i_tq : z_NE (adS i) tq := (show (adS i) ≠ tq from fun z => by have z2 := g1_adS_i; rw [z, n_tq] at z2; cases z2)
          have ne_na_i_tq : z_NE (na i) tq := (show (na i) ≠ tq from fun z => by have z2 := g1_na_i; rw [z, n_tq] at z2; cases z2)
          have ne_sc_tq : z_NE sc tq := (show sc ≠ tq from fun z => by have z2 := hscC; rw [z, n_tq] at z2; cases z2)
          have f2_xo : h2 xo = some ((1, 0), .inr (0, [.ref tp, .ref ow, .ref kn, .ref pr, .ref sp])) := by rw [← hh2]; exact z_keepN n_tq g1_xo
          have f2_tp : h2 tp = some ((2, 0), .inr (1, [.ref b, .int (nI 0)])) := by rw [← hh2]; exact z_keepN n_tq htpC
          have f2_b : h2 b = some ((3, 0), .inl (g.2.1 0, 4000, .inl f)) := by rw [← hh2]; exact z_keepN n_tq g1_b
          have f2_kn : h2 kn = some ((r, 0), .inr (3, [.ref fa9, .ref ca, .int (nI S.1), .int (nI (cc S)), .int (nI (rq S (-1)))])) := by rw [← hh2]; exact z_keepN n_tq g1_kn
          have f2_pr : h2 pr = some ((mr, 0), .inr (5, [.ref ra, .int (nI R.1), .int (nI (tbC R.2 R.1))])) := by rw [← hh2]; exact z_keepN n_tq g1_pr
          have f2_adS_i : h2 (adS i) = some ((r + 1, i), .inr (4, [.int (nI i), .int (fKi (S.2 i)), .int (fTy (S.2 i)), .int (fGr (S.2 i)), .ref (na i), .int (fCo (S.2 i)), .int (fRe (S.2 i)), .int (fDe (S.2 i)), .int (nI (rq S (nI i)))])) := by rw [← hh2]; exact z_keepN n_tq g1_adS_i
          have f2_na_i : h2 (na i) = some ((r + 2, i), .inl (g.2.1 0, (fNm (S.2 i)).length, .inl (nf i))) := by rw [← hh2]; exact z_keepN n_tq g1_na_i
          have f2_sc : h2 sc = some ((6, 0), .inr (7, [.ref b, .int (nI i9), .int (nI 0), .int (-1), .int 0, .int 0])) := by rw [← hh2]; exact z_keepN n_tq hscC
          have f2_tq : h2 tq = some ((mr + 2, R.1), .inl (g.2.1 0, (T.take i9).length, .inl fq)) := by rw [← hh2]; exact z_put_eq
          have kk2 : z_K (fun y => y = 2 ∨ y = 6) h h2 := kk1.tr (by rw [← hh2]; exact z_K.new n_tq)
          have hlq9 : ∀ k, k < (T.take i9).length → (T.take i9).getD k 0 < 256 ∧ fq k = sb_b ((T.take i9).getD k 0) := fun k hk => by rw [c8 k (by omega), Nat.zero_add, show (T.take i9).getD k 0 = T.getD k 0 by simp only [List.getD_eq_getElem?_getD]; rw [List.getElem?_take_of_lt (by omega)]]; exact hT k (by omega)
          refine W.eq (g2 := F0 m 79 ls [.ref tq, .long 0, .ref (adS i), .int (nI p), .ref pr]) rfl ?_
          refine z_callV (n := 4) (As := [.int (nI p), .ref (adS i), .long 0, .ref tq]) (rest := []) ⟨hx, hb, hml, hown, hts⟩ (c_appendT (S := S) (lq := T.take i9) l g h2 f2_adS_i f2_tq (hN.k kk2 (by omega) (by omega) (by omega)) hpa hp hfull.1 (by omega) (by omega) hr0 rfl (by have := hfull.2; omega) ⟨by omega, hlq9⟩) (z_in k_559 rfl) (z_in k_5 rfl) (z_in k_635 rfl) (z_in k_557 rfl) (z_in k_558 rfl) (by decide +kernel) ⟨by first | exact Nat.le_of_ble_eq_true rfl | (dsimp only; omega) | omega, by first | exact Nat.le_of_ble_eq_true rfl | (dsimp only; omega) | omega⟩ hK hE hw hA rfl f2_pr rfl hl.1 (Nat.le_of_ble_eq_true rfl) d_X_addText_79 ⟨by first | exact Nat.le_of_ble_eq_true rfl | (dsimp only; omega) | omega, by first | exact Nat.le_of_ble_eq_true rfl | (dsimp only; omega) | omega⟩ rfl (fun r9 h9 H locs hp hw => ?_)
          obtain ⟨nn, r8, n8, pa8, k8⟩ := hp
          subst r8
          obtain ⟨h3, e7⟩ : ∃ x9, x9 = h9 := ⟨_, rfl⟩
          subst e7
          have g3_xo : h3 xo = some ((1, 0), .inr (0, [.ref tp, .ref ow, .ref kn, .ref pr, .ref sp])) := k8 _ _ _ f2_xo (by simp; try omega)
          have g3_tp : h3 tp = some ((2, 0), .inr (1, [.ref b, .int (nI 0)])) := k8 _ _ _ f2_tp (by simp; try omega)
          have g3_b : h3 b = some ((3, 0), .inl (g.2.1 0, 4000, .inl f)) := k8 _ _ _ f2_b (by simp; try omega)
          have g3_kn : h3 kn = some ((r, 0), .inr (3, [.ref fa9, .ref ca, .int (nI S.1), .int (nI (cc S)), .int (nI (rq S (-1)))])) := k8 _ _ _ f2_kn (by simp; try omega)
          have g3_adS_i : h3 (adS i) = some ((r + 1, i), .inr (4, [.int (nI i), .int (fKi (S.2 i)), .int (fTy (S.2 i)), .int (fGr (S.2 i)), .ref (na i), .int (fCo (S.2 i)), .int (fRe (S.2 i)), .int (fDe (S.2 i)), .int (nI (rq S (nI i)))])) := k8 _ _ _ f2_adS_i (by simp; try omega)
          have g3_na_i : h3 (na i) = some ((r + 2, i), .inl (g.2.1 0, (fNm (S.2 i)).length, .inl (nf i))) := k8 _ _ _ f2_na_i (by simp; try omega)
          have g3_sc : h3 sc = some ((6, 0), .inr (7, [.ref b, .int (nI i9), .int (nI 0), .int (-1), .int 0, .int 0])) := k8 _ _ _ f2_sc (by simp; try omega)
          have k82 := k8.K (R := fun y => y = mr ∨ y = mr + 1) (fun t z => by rcases z with z | z | z | z <;> simp [z])
          have kk3 : z_K (fun y => y = 2 ∨ y = 6 ∨ y = mr ∨ y = mr + 1) h h3 := (kk2.mono (fun y z => by omega)).tr (k82.mono (fun y z => by omega))
          refine W.eq (g2 := F0 m 82 ls [.int (nI R.1)]) rfl ?_
          exact z_iret hx hb hr hlocks hw (by refine ⟨by rw [eW], ?_, kk3.mono (fun y z => by unfold KXr; omega)⟩; rw [eW]; exact ⟨tp, b, ow, kn, pr, sp, r, mr, mr2, ra2, f, rf2, a2, c2, g3_xo, g3_tp, g3_b, ⟨hfb, Nat.zero_le _, fun k hk => absurd hk (Nat.not_lt_zero _)⟩, ⟨hO.k kk3 (by omega) (by omega), hj⟩, ⟨⟨_, _, _, _, _, _, _, hS.k kk3 (by omega) (by omega) (by omega)⟩, hr0, hgr⟩, ⟨⟨_, _, _, _, _, n8⟩, pa8⟩, ⟨kk3 _ _ _ hsp (by dsimp only; omega), kk3 _ _ _ hra2 (by dsimp only; omega)⟩, hmr⟩) (by first | exact Nat.le_of_ble_eq_true rfl | (dsimp only; omega) | omega) (by first | exact Nat.le_of_ble_eq_true rfl | (dsimp only; omega) | omega) d_X_addText_82
        · -- room False
          have htR : tbR R = tbC R.2 R.1 := rfl
          have eO : okAdd S R (nI p) (nI i) (decide (fTy (S.2 (nI i).toNatClampNeg) = 3) && decide (nI i9 ≤ 255)) = decide (R.1 < 2000) := by rw [okAdd_in hi hp hs8 hR2, nI_clamp (show i < 2 ^ 31 by omega), decide_eq_true c_39, c_59, decide_eq_true (show  nI i9 ≤ 255 by rw [Int32.le_iff_toInt_le, nI_toInt (by omega)]; have : (255 : Int32).toInt = 255 := rfl; omega)]; simp
          have eW : oAddText T S R (nI p) (nI i) (nI i9) = (-1, [], R) := by unfold oAddText; rw [if_neg (not_few hi9 hT4), eO, nI_clamp (show i9 < 2 ^ 31 by omega), if_neg (fun z => hfull ⟨by simpa using (Bool.and_eq_true_iff.mp z).1, by have := (Bool.and_eq_true_iff.mp z).2; simp at this; omega⟩)]
          have hfull : ¬ R.1 < 2000 ∨ 16000 < tbC R.2 R.1 + (T.take i9).length := by rw [List.length_take]; omega
          refine lv_aload_n hx hb d_X_addText_64 rfl (lv_at hl 2 rfl) ?_
          refine z_get hx hb hts (z_lay i_X) hown hK hw g1_xo rfl 3 (by decide) (z_in k_149 rfl) (fun _ h9 => h9) rfl d_X_addText_65 ?_
          refine lv_iload_n hx hb d_X_addText_68 rfl (lv_at hl 3 rfl) ?_
          refine lv_aload hx hb d_X_addText_69 (lv_at hl 0 rfl) ?_
          refine lv_lconst (v := 0) hx hb d_X_addText_71 (by decide) ?_
          refine lv_aload hx hb d_X_addText_72 (lv_at hl 1 rfl) ?_
          refine lv_iconst (v := 0) hx hb d_X_addText_74 (by decide) ?_
          refine lv_iload_n hx hb d_X_addText_75 rfl (lv_at hl 5 rfl) ?_
          refine z_callV (n := 2) (As := [.int 0, .int (nI i9)]) (rest := [.long 0, .ref (adS i), .int (nI p), .ref pr]) ⟨hx, hb, hml, hown, hts⟩ (c_Scanner_copy (i := 0) (j := i9) (t := tT T) (tg := (mr + 2, R.1)) l g h1 hscC g1_b (by omega) (by omega) (by omega) (by omega) (by omega) hfb) (z_in k_365 rfl) (z_in k_8 rfl) (z_in k_640 rfl) (z_in k_363 rfl) (z_in k_364 rfl) (by decide +kernel) ⟨by first | exact Nat.le_of_ble_eq_true rfl | (dsimp only; omega) | omega, by first | exact Nat.le_of_ble_eq_true rfl | (dsimp only; omega) | omega⟩ hK hE hw hA rfl hscC rfl hl.1 (Nat.le_of_ble_eq_true rfl) d_X_addText_76 ⟨by first | exact Nat.le_of_ble_eq_true rfl | (dsimp only; omega) | omega, by first | exact Nat.le_of_ble_eq_true rfl | (dsimp only; omega) | omega⟩ rfl (fun r9 h9 H locs hp hw => ?_)
          obtain ⟨tq, fq, r8, n_tq, c8, hh4⟩ := hp
          subst r8
          have lt9 : (T.take i9).length = i9 := by rw [List.length_take]; omega
          rw [show i9 - 0 = (T.take i9).length by omega] at hh4
          obtain ⟨h4, e6⟩ : ∃ x9, x9 = h9 := ⟨_, rfl⟩
          subst e6
          have ne_xo_tq : z_NE xo tq := (show xo ≠ tq from fun z => by have z2 := g1_xo; rw [z, n_tq] at z2; cases z2)
          have ne_tp_tq : z_NE tp tq := (show tp ≠ tq from fun z => by have z2 := htpC; rw [z, n_tq] at z2; cases z2)
          have ne_b_tq : z_NE b tq := (show b ≠ tq from fun z => by have z2 := g1_b; rw [z, n_tq] at z2; cases z2)
          have ne_kn_tq : z_NE kn tq := (show kn ≠ tq from fun z => by have z2 := g1_kn; rw [z, n_tq] at z2; cases z2)
          have ne_pr_tq : z_NE pr tq := (show pr ≠ tq from fun z => by have z2 := g1_pr; rw [z, n_tq] at z2; cases z2)
          have ne_adS_i_tq : z_NE (adS i) tq := (show (adS i) ≠ tq from fun z => by have z2 := g1_adS_i; rw [z, n_tq] at z2; cases z2)
          have ne_na_i_tq : z_NE (na i) tq := (show (na i) ≠ tq from fun z => by have z2 := g1_na_i; rw [z, n_tq] at z2; cases z2)
          have ne_sc_tq : z_NE sc tq := (show sc ≠ tq from fun z => by have z2 := hscC; rw [z, n_tq] at z2; cases z2)
          have f4_xo : h4 xo = some ((1, 0), .inr (0, [.ref tp, .ref ow, .ref kn, .ref pr, .ref sp])) := by rw [← hh4]; exact z_keepN n_tq g1_xo
          have f4_tp : h4 tp = some ((2, 0), .inr (1, [.ref b, .int (nI 0)])) := by rw [← hh4]; exact z_keepN n_tq htpC
          have f4_b : h4 b = some ((3, 0), .inl (g.2.1 0, 4000, .inl f)) := by rw [← hh4]; exact z_keepN n_tq g1_b
          have f4_kn : h4 kn = some ((r, 0), .inr (3, [.ref fa9, .ref ca, .int (nI S.1), .int (nI (cc S)), .int (nI (rq S (-1)))])) := by rw [← hh4]; exact z_keepN n_tq g1_kn
          have f4_pr : h4 pr = some ((mr, 0), .inr (5, [.ref ra, .int (nI R.1), .int (nI (tbC R.2 R.1))])) := by rw [← hh4]; exact z_keepN n_tq g1_pr
          have f4_adS_i : h4 (adS i) = some ((r + 1, i), .inr (4, [.int (nI i), .int (fKi (S.2 i)), .int (fTy (S.2 i)), .int (fGr (S.2 i)), .ref (na i), .int (fCo (S.2 i)), .int (fRe (S.2 i)), .int (fDe (S.2 i)), .int (nI (rq S (nI i)))])) := by rw [← hh4]; exact z_keepN n_tq g1_adS_i
          have f4_na_i : h4 (na i) = some ((r + 2, i), .inl (g.2.1 0, (fNm (S.2 i)).length, .inl (nf i))) := by rw [← hh4]; exact z_keepN n_tq g1_na_i
          have f4_sc : h4 sc = some ((6, 0), .inr (7, [.ref b, .int (nI i9), .int (nI 0), .int (-1), .int 0, .int 0])) := by rw [← hh4]; exact z_keepN n_tq hscC
          have f4_tq : h4 tq = some ((mr + 2, R.1), .inl (g.2.1 0, (T.take i9).length, .inl fq)) := by rw [← hh4]; exact z_put_eq
          have kk4 : z_K (fun y => y = 2 ∨ y = 6) h h4 := kk1.tr (by rw [← hh4]; exact z_K.new n_tq)
          have hlq9 : ∀ k, k < (T.take i9).length → (T.take i9).getD k 0 < 256 ∧ fq k = sb_b ((T.take i9).getD k 0) := fun k hk => by rw [c8 k (by omega), Nat.zero_add, show (T.take i9).getD k 0 = T.getD k 0 by simp only [List.getD_eq_getElem?_getD]; rw [List.getElem?_take_of_lt (by omega)]]; exact hT k (by omega)
          refine W.eq (g2 := F0 m 79 ls [.ref tq, .long 0, .ref (adS i), .int (nI p), .ref pr]) rfl ?_
          refine z_callV (n := 4) (As := [.int (nI p), .ref (adS i), .long 0, .ref tq]) (rest := []) ⟨hx, hb, hml, hown, hts⟩ (c_append_fullT (S := S) (lq := T.take i9) l g h4 f4_adS_i f4_tq (hN.k kk4 (by omega) (by omega) (by omega)) hp hfull (by omega)) (z_in k_559 rfl) (z_in k_5 rfl) (z_in k_635 rfl) (z_in k_557 rfl) (z_in k_558 rfl) (by decide +kernel) ⟨by first | exact Nat.le_of_ble_eq_true rfl | (dsimp only; omega) | omega, by first | exact Nat.le_of_ble_eq_true rfl | (dsimp only; omega) | omega⟩ hK hE hw hA rfl f4_pr rfl hl.1 (Nat.le_of_ble_eq_true rfl) d_X_addText_79 ⟨by first | exact Nat.le_of_ble_eq_true rfl | (dsimp only; omega) | omega, by first | exact Nat.le_of_ble_eq_true rfl | (dsimp only; omega) | omega⟩ rfl (fun r9 h9 H locs hp hw => ?_)
          obtain ⟨r8, h8⟩ := hp
          subst r8
          subst h8
          refine W.eq (g2 := F0 m 82 ls [.int (-1)]) rfl ?_
          exact z_iret hx hb hr hlocks hw (by refine ⟨by rw [eW], ?_, kk4.mono (fun y z => by unfold KXr; omega)⟩; rw [eW]; exact ⟨tp, b, ow, kn, pr, sp, r, mr, mr2, ra2, f, rf2, a2, c2, f4_xo, f4_tp, f4_b, ⟨hfb, Nat.zero_le _, fun k hk => absurd hk (Nat.not_lt_zero _)⟩, ⟨hO.k kk4 (by omega) (by omega), hj⟩, ⟨⟨_, _, _, _, _, _, _, hS.k kk4 (by omega) (by omega) (by omega)⟩, hr0, hgr⟩, ⟨⟨_, _, _, _, _, hN.k kk4 (by omega) (by omega) (by omega)⟩, hpa⟩, ⟨kk4 _ _ _ hsp (by dsimp only; omega), kk4 _ _ _ hra2 (by dsimp only; omega)⟩, hmr⟩) (by first | exact Nat.le_of_ble_eq_true rfl | (dsimp only; omega) | omega) (by first | exact Nat.le_of_ble_eq_true rfl | (dsimp only; omega) | omega) d_X_addText_82
      · -- 59: False
        have c_59 : (mayT R p i (fKi (S.2 i)) (fGr (S.2 i))) = false := zb_f c_59
        have eO : okAdd S R (nI p) (nI i) (decide (fTy (S.2 (nI i).toNatClampNeg) = 3) && decide (nI i9 ≤ 255)) = false := by rw [okAdd_in hi hp hs8 hR2, nI_clamp (show i < 2 ^ 31 by omega)]; rw [c_59]; simp
        have eW : oAddText T S R (nI p) (nI i) (nI i9) = (-1, [], R) := by unfold oAddText; rw [if_neg (not_few hi9 hT4), eO]; rfl
        refine lv_iconst (v := (-1)) hx hb d_X_addText_62 (by decide) ?_
        exact z_iret hx hb hr hlocks hw (by refine ⟨by rw [eW], ?_, kk1.mono (fun y z => by unfold KXr; omega)⟩; rw [eW]; exact ⟨tp, b, ow, kn, pr, sp, r, mr, mr2, ra2, f, rf2, a2, c2, g1_xo, htpC, g1_b, ⟨hfb, Nat.zero_le _, fun k hk => absurd hk (Nat.not_lt_zero _)⟩, ⟨hO.k kk1 (by omega) (by omega), hj⟩, ⟨⟨_, _, _, _, _, _, _, hS.k kk1 (by omega) (by omega) (by omega)⟩, hr0, hgr⟩, ⟨⟨_, _, _, _, _, hN.k kk1 (by omega) (by omega) (by omega)⟩, hpa⟩, ⟨kk1 _ _ _ hsp (by dsimp only; omega), kk1 _ _ _ hra2 (by dsimp only; omega)⟩, hmr⟩) (by decide) (by decide) d_X_addText_63

theorem x_addText (l : Launch) (g : z_G) (h : z_H) {xo : Nat} {T : List Nat} {S : Sch} {R : Rec} {O : List Nat} {j : Nat} {pa a : Int32} {i9 : Nat} (hX : XAt g h xo T S R O j) (hi9 : i9 ≤ T.length) : z_C l y_X_addText prog_1_method_12_code 6 (Option.some Jvm.ClassFile.FieldType.int) 5 160 3 280 g [.ref xo, .int pa, .int a, .int (nI i9)] h (fun x h1 => XPt g h x (.int (oAddText T S R pa a (nI i9)).1) h1 xo (oAddText T S R pa a (nI i9)).2.1 S (oAddText T S R pa a (nI i9)).2.2 O j) := by
  have hb : S.1 < 2 ^ 31 ∧ R.1 < 2 ^ 31 := by obtain ⟨tp, b, ow, kn, pr, sp, r, mr, mr2, ra2, f, rf2, a2, c2, hxo, htp0, hb0, ⟨hfb, hT4, hT⟩, ⟨hO, hj⟩, ⟨⟨fa9, ca, adS, na, ff, cf, nf, hS⟩, hr0, hgr⟩, ⟨⟨ra, ad, tx, rf, tf, hN⟩, hpa⟩, ⟨hsp, hra2⟩, hmr⟩ := id hX; have hs8 : S.1 ≤ 128 := hS.2.2.2.2.2.2.2.1; have hR2 : R.1 ≤ 2000 := hN.2.2.2.2.2.1; omega
  rcases ix_cases a hb.1 with ho | ⟨i, hi, rfl⟩
  · exact x_addText_nof l g h hX hi9 ho
  · rcases ix_cases pa hb.2 with ho | ⟨p, hp, rfl⟩
    · exact x_addText_nop l g h hX hi9 hi ho
    · exact x_addText_in l g h hX hi9 hi hp

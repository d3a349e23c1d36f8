theorem MNp.add {g : z_G} {h h1 : z_H} {ma : Nat → Nat} {R : Rec} {nf np nr ns : Nat → Int32} {nv : Nat → Int64} {tx : Nat → Int32} (x : MNp g h ma R nf np nr ns nv tx) {fi pa : Int32} {v : Int64} (c0 : h1 (ma 6) = some ((29, 0), .inl (g.2.1 1, 2000, .inl (upd nf R.1 fi)))) (c1 : h1 (ma 7) = some ((29, 1), .inl (g.2.1 1, 2000, .inl (upd np R.1 pa)))) (c2 : h1 (ma 8) = some ((29, 2), .inl (g.2.1 1, 2000, .inl (upd nr R.1 (nI (tbC R.2 R.1)))))) (c3 : h1 (ma 9) = some ((29, 3), .inl (g.2.1 1, 2000, .inl (upd ns R.1 0)))) (c4 : h1 (ma 10) = some ((30, 0), .inl (g.2.1 2, 2000, .inr (.inl (vp_updL nv R.1 v))))) (c5 : h1 (ma 11) = some ((31, 0), .inl (g.2.1 1, 16000, .inl tx))) : MNp g h1 ma (addN R (fi, pa, v, [])) (upd nf R.1 fi) (upd np R.1 pa) (upd nr R.1 (nI (tbC R.2 R.1))) (upd ns R.1 0) (vp_updL nv R.1 v) tx := by
  refine ⟨c0, c1, c2, c3, c4, c5, fun i hi => ?_⟩
  have hi2 : i < R.1 + 1 := hi
  by_cases e : i = R.1
  · subst e
    rw [addN_new]
    refine ⟨pk_us, pk_us, fun _ => ⟨?_, pk_us, ?_, fun k hk => absurd hk (Nat.not_lt_zero _)⟩⟩
    · rw [pk_us, tbC_congr (N := R.2) R.1 (fun i hi => addN_old hi)]
    · show vp_updL nv R.1 v R.1 = v
      unfold vp_updL; simp
  · have h1 := x.2.2.2.2.2.2 i (by omega)
    rw [addN_old (by omega), tbC_congr (N := R.2) i (fun j hj => addN_old (by omega))]
    refine ⟨(pk_un (by omega)).trans h1.1, (pk_un (by omega)).trans h1.2.1, fun z => ?_⟩
    have h2 := h1.2.2 z
    exact ⟨(pk_un (by omega)).trans h2.1, (pk_un (by omega)).trans h2.2.1, (show vp_updL nv R.1 v i = nv i by unfold vp_updL; simp [e]).trans h2.2.2.1, h2.2.2.2⟩
theorem MNp.say {g : z_G} {h h1 : z_H} {ma : Nat → Nat} {R : Rec} {nf np nr ns : Nat → Int32} {nv : Nat → Int64} {tx : Nat → Int32} {fi pa : Int32} {v : Int64} {l : List Nat} {c : Nat} (x : MNp g h ma (addN R (fi, pa, v, l)) nf np nr ns nv tx) (h0 : 0 < R.1) (c0 : h1 (ma 6) = some ((29, 0), .inl (g.2.1 1, 2000, .inl nf))) (c1 : h1 (ma 7) = some ((29, 1), .inl (g.2.1 1, 2000, .inl np))) (c2 : h1 (ma 8) = some ((29, 2), .inl (g.2.1 1, 2000, .inl nr))) (c3 : h1 (ma 9) = some ((29, 3), .inl (g.2.1 1, 2000, .inl (upd ns R.1 (nI (l.length + 1)))))) (c4 : h1 (ma 10) = some ((30, 0), .inl (g.2.1 2, 2000, .inr (.inl nv)))) (c5 : h1 (ma 11) = some ((31, 0), .inl (g.2.1 1, 16000, .inl (upd tx (tbC R.2 R.1 + l.length) (nI c))))) : MNp g h1 ma (addN R (fi, pa, v, l ++ [c])) nf np nr (upd ns R.1 (nI (l.length + 1))) nv (upd tx (tbC R.2 R.1 + l.length) (nI c)) := by
  refine ⟨c0, c1, c2, c3, c4, c5, fun i hi => ?_⟩
  have hi2 : i < R.1 + 1 := hi
  have h1 := x.2.2.2.2.2.2 i hi
  rw [tbC_congr (N := R.2) i (fun j hj => addN_old (by omega))] at h1 ⊢
  by_cases e : i = R.1
  · subst e
    rw [addN_new] at h1 ⊢
    have h2 := h1.2.2 h0
    refine ⟨h1.1, h1.2.1, fun _ => ⟨h2.1, ?_, h2.2.2.1, fun k hk => ?_⟩⟩
    · rw [pk_us]; show _ = nI (l ++ [c]).length; simp
    · have hk : k < (l ++ [c]).length := hk
      show _ = nI ((l ++ [c]).getD k 0)
      simp only [List.length_append, List.length_cons, List.length_nil] at hk
      by_cases e2 : k = l.length
      · subst e2; rw [pk_us]; simp
      · rw [pk_un (by omega), h2.2.2.2 k (show k < l.length by omega)]
        show nI (l.getD k 0) = _
        simp only [List.getD_eq_getElem?_getD]
        rw [List.getElem?_append_left (by omega)]
  · have e3 := addN_old (R := R) (N := (fi, pa, v, l ++ [c])) (i := i) (by omega)
    rw [addN_old (by omega)] at h1
    rw [e3]
    refine ⟨h1.1, h1.2.1, fun z => ?_⟩
    have h2 := h1.2.2 z
    have h3 := tbC_in R.2 (show i < R.1 by omega)
    exact ⟨h2.1, (pk_un (by omega)).trans h2.2.1, h2.2.2.1, fun k hk => by rw [pk_un (by omega)]; exact h2.2.2.2 k hk⟩

set_option maxHeartbeats 300000 in
set_option maxRecDepth 100000 in
theorem m_node (l : Launch) (g : z_G) (h : z_H) {mo : Nat} {ma : Nat → Nat} {cod tpd fls cls9 ffl fcl ous il : Int32} {siz at9 : Int32} {R : Rec} {nf np nr ns : Nat → Int32} {nv : Nat → Int64} {tx : Nat → Int32} {pa fi : Int32} {v9 : Int64} (hmo : h mo = some ((20, 0), .inr (11, mF ma cod tpd siz fls cls9 ffl fcl (nI R.1) (nI (tbC R.2 R.1)) ous at9 il))) (hNd : MNp g h ma R nf np nr ns nv tx) (hR2 : R.1 < 2000) : z_C l y_M_node prog_13_method_26_code 5 (Option.some Jvm.ClassFile.FieldType.int) 0 0 0 0 g [.ref mo, .int pa, .int fi, .long v9] h (fun x h1 => x = some (.int (nI R.1)) ∧ h1 mo = some ((20, 0), .inr (11, mF ma cod tpd siz fls cls9 ffl fcl (nI (R.1 + 1)) (nI (tbC R.2 R.1)) ous at9 il)) ∧ MNd g h1 ma (addN R (fi, pa, v9, [])) ∧ z_K (fun y => y = 20 ∨ y = 29 ∨ y = 30) h h1) := by
  refine z_C.of (by decide) (Nat.le_of_ble_eq_true rfl) (fun pg en s m below meth cd A ls hx hb hml hr hts hown hlocks hnm hK hE hA hw hl => ?_)
  have hl : lv_has ls 5 [(0, .ref mo), (1, .int pa), (2, .int fi), (3, .long v9)] := hl
  have kk0 : z_K (fun y => y = 20 ∨ y = 29 ∨ y = 30) h h := z_K.rf
  refine lv_aload_n hx hb d_M_node_0 rfl (lv_at hl 0 rfl) ?_
  refine z_get hx hb hts (z_lay i_M) hown hK hw hmo rfl 13 (by decide) (z_in k_784 rfl) (fun _ h9 => h9) rfl d_M_node_1 ?_
  refine lv_aload_n hx hb d_M_node_4 rfl (lv_at hl 0 rfl) ?_
  refine z_get hx hb hts (z_lay i_M) hown hK hw hmo rfl 18 (by decide) (z_in k_789 rfl) (fun _ h9 => h9) rfl d_M_node_5 ?_
  refine lv_iload_n hx hb d_M_node_8 rfl (lv_at hl 2 rfl) ?_
  refine z_iast hx hb hK hw hNd.1 1 rfl (vp_in_nI (by omega) (by omega)) d_M_node_9 (fun H locs hw => ?_)
  rw [nI_clamp (by omega)] at hw
  obtain ⟨h1, hh1⟩ : ∃ x9, z_put h (ma 6) (29, 0) (.inl (g.2.1 1, 2000, .inl (upd nf R.1 fi))) = x9 := ⟨_, rfl⟩
  have hw : z_S g A s.heap h1 H locs := by rw [← hh1]; exact hw
  have f1_mo : h1 mo = some ((20, 0), .inr (11, mF ma cod tpd siz fls cls9 ffl fcl (nI R.1) (nI (tbC R.2 R.1)) ous at9 il)) := by rw [← hh1]; exact z_keep hNd.1 hmo (z_t1 (by decide))
  have f1_ma_6 : h1 (ma 6) = some ((29, 0), .inl (g.2.1 1, 2000, .inl (upd nf R.1 fi))) := by rw [← hh1]; exact z_put_eq
  have f1_ma_7 : h1 (ma 7) = some ((29, 1), .inl (g.2.1 1, 2000, .inl np)) := by rw [← hh1]; exact z_keep hNd.1 hNd.2.1 (by decide)
  have f1_ma_8 : h1 (ma 8) = some ((29, 2), .inl (g.2.1 1, 2000, .inl nr)) := by rw [← hh1]; exact z_keep hNd.1 hNd.2.2.1 (by decide)
  have f1_ma_9 : h1 (ma 9) = some ((29, 3), .inl (g.2.1 1, 2000, .inl ns)) := by rw [← hh1]; exact z_keep hNd.1 hNd.2.2.2.1 (by decide)
  have f1_ma_10 : h1 (ma 10) = some ((30, 0), .inl (g.2.1 2, 2000, .inr (.inl nv))) := by rw [← hh1]; exact z_keep hNd.1 hNd.2.2.2.2.1 (z_t1 (by decide))
  have f1_ma_11 : h1 (ma 11) = some ((31, 0), .inl (g.2.1 1, 16000, .inl tx)) := by rw [← hh1]; exact z_keep hNd.1 hNd.2.2.2.2.2.1 (z_t1 (by decide))
  have kk1 : z_K (fun y => y = 20 ∨ y = 29 ∨ y = 30) h h1 := kk0.tr (by rw [← hh1]; exact z_K.put hNd.1 (by first | decide | simp | omega))
  refine lv_aload_n hx hb d_M_node_10 rfl (lv_at hl 0 rfl) ?_
  refine z_get hx hb hts (z_lay i_M) hown hK hw f1_mo rfl 14 (by decide) (z_in k_785 rfl) (fun _ h9 => h9) rfl d_M_node_11 ?_
  refine lv_aload_n hx hb d_M_node_14 rfl (lv_at hl 0 rfl) ?_
  refine z_get hx hb hts (z_lay i_M) hown hK hw f1_mo rfl 18 (by decide) (z_in k_789 rfl) (fun _ h9 => h9) rfl d_M_node_15 ?_
  refine lv_iload_n hx hb d_M_node_18 rfl (lv_at hl 1 rfl) ?_
  refine z_iast hx hb hK hw f1_ma_7 1 rfl (vp_in_nI (by omega) (by omega)) d_M_node_19 (fun H locs hw => ?_)
  rw [nI_clamp (by omega)] at hw
  obtain ⟨h2, hh2⟩ : ∃ x9, z_put h1 (ma 7) (29, 1) (.inl (g.2.1 1, 2000, .inl (upd np R.1 pa))) = x9 := ⟨_, rfl⟩
  have hw : z_S g A s.heap h2 H locs := by rw [← hh2]; exact hw
  have f2_mo : h2 mo = some ((20, 0), .inr (11, mF ma cod tpd siz fls cls9 ffl fcl (nI R.1) (nI (tbC R.2 R.1)) ous at9 il)) := by rw [← hh2]; exact z_keep f1_ma_7 f1_mo (z_t1 (by decide))
  have f2_ma_6 : h2 (ma 6) = some ((29, 0), .inl (g.2.1 1, 2000, .inl (upd nf R.1 fi))) := by rw [← hh2]; exact z_keep f1_ma_7 f1_ma_6 (by decide)
  have f2_ma_7 : h2 (ma 7) = some ((29, 1), .inl (g.2.1 1, 2000, .inl (upd np R.1 pa))) := by rw [← hh2]; exact z_put_eq
  have f2_ma_8 : h2 (ma 8) = some ((29, 2), .inl (g.2.1 1, 2000, .inl nr)) := by rw [← hh2]; exact z_keep f1_ma_7 f1_ma_8 (by decide)
  have f2_ma_9 : h2 (ma 9) = some ((29, 3), .inl (g.2.1 1, 2000, .inl ns)) := by rw [← hh2]; exact z_keep f1_ma_7 f1_ma_9 (by decide)
  have f2_ma_10 : h2 (ma 10) = some ((30, 0), .inl (g.2.1 2, 2000, .inr (.inl nv))) := by rw [← hh2]; exact z_keep f1_ma_7 f1_ma_10 (z_t1 (by decide))
  have f2_ma_11 : h2 (ma 11) = some ((31, 0), .inl (g.2.1 1, 16000, .inl tx)) := by rw [← hh2]; exact z_keep f1_ma_7 f1_ma_11 (z_t1 (by decide))
  have kk2 : z_K (fun y => y = 20 ∨ y = 29 ∨ y = 30) h h2 := kk1.tr (by rw [← hh2]; exact z_K.put f1_ma_7 (by first | decide | simp | omega))
  refine lv_aload_n hx hb d_M_node_20 rfl (lv_at hl 0 rfl) ?_
  refine z_get hx hb hts (z_lay i_M) hown hK hw f2_mo rfl 15 (by decide) (z_in k_786 rfl) (fun _ h9 => h9) rfl d_M_node_21 ?_
  refine lv_aload_n hx hb d_M_node_24 rfl (lv_at hl 0 rfl) ?_
  refine z_get hx hb hts (z_lay i_M) hown hK hw f2_mo rfl 18 (by decide) (z_in k_789 rfl) (fun _ h9 => h9) rfl d_M_node_25 ?_
  refine lv_aload_n hx hb d_M_node_28 rfl (lv_at hl 0 rfl) ?_
  refine z_get hx hb hts (z_lay i_M) hown hK hw f2_mo rfl 19 (by decide) (z_in k_790 rfl) (fun _ h9 => h9) rfl d_M_node_29 ?_
  refine z_iast hx hb hK hw f2_ma_8 1 rfl (vp_in_nI (by omega) (by omega)) d_M_node_32 (fun H locs hw => ?_)
  rw [nI_clamp (by omega)] at hw
  obtain ⟨h3, hh3⟩ : ∃ x9, z_put h2 (ma 8) (29, 2) (.inl (g.2.1 1, 2000, .inl (upd nr R.1 (nI (tbC R.2 R.1))))) = x9 := ⟨_, rfl⟩
  have hw : z_S g A s.heap h3 H locs := by rw [← hh3]; exact hw
  have f3_mo : h3 mo = some ((20, 0), .inr (11, mF ma cod tpd siz fls cls9 ffl fcl (nI R.1) (nI (tbC R.2 R.1)) ous at9 il)) := by rw [← hh3]; exact z_keep f2_ma_8 f2_mo (z_t1 (by decide))
  have f3_ma_6 : h3 (ma 6) = some ((29, 0), .inl (g.2.1 1, 2000, .inl (upd nf R.1 fi))) := by rw [← hh3]; exact z_keep f2_ma_8 f2_ma_6 (by decide)
  have f3_ma_7 : h3 (ma 7) = some ((29, 1), .inl (g.2.1 1, 2000, .inl (upd np R.1 pa))) := by rw [← hh3]; exact z_keep f2_ma_8 f2_ma_7 (by decide)
  have f3_ma_8 : h3 (ma 8) = some ((29, 2), .inl (g.2.1 1, 2000, .inl (upd nr R.1 (nI (tbC R.2 R.1))))) := by rw [← hh3]; exact z_put_eq
  have f3_ma_9 : h3 (ma 9) = some ((29, 3), .inl (g.2.1 1, 2000, .inl ns)) := by rw [← hh3]; exact z_keep f2_ma_8 f2_ma_9 (by decide)
  have f3_ma_10 : h3 (ma 10) = some ((30, 0), .inl (g.2.1 2, 2000, .inr (.inl nv))) := by rw [← hh3]; exact z_keep f2_ma_8 f2_ma_10 (z_t1 (by decide))
  have f3_ma_11 : h3 (ma 11) = some ((31, 0), .inl (g.2.1 1, 16000, .inl tx)) := by rw [← hh3]; exact z_keep f2_ma_8 f2_ma_11 (z_t1 (by decide))
  have kk3 : z_K (fun y => y = 20 ∨ y = 29 ∨ y = 30) h h3 := kk2.tr (by rw [← hh3]; exact z_K.put f2_ma_8 (by first | decide | simp | omega))
  refine lv_aload_n hx hb d_M_node_33 rfl (lv_at hl 0 rfl) ?_
  refine z_get hx hb hts (z_lay i_M) hown hK hw f3_mo rfl 16 (by decide) (z_in k_787 rfl) (fun _ h9 => h9) rfl d_M_node_34 ?_
  refine lv_aload_n hx hb d_M_node_37 rfl (lv_at hl 0 rfl) ?_
  refine z_get hx hb hts (z_lay i_M) hown hK hw f3_mo rfl 18 (by decide) (z_in k_789 rfl) (fun _ h9 => h9) rfl d_M_node_38 ?_
  refine lv_iconst (v := 0) hx hb d_M_node_41 (by decide) ?_
  refine z_iast hx hb hK hw f3_ma_9 1 rfl (vp_in_nI (by omega) (by omega)) d_M_node_42 (fun H locs hw => ?_)
  rw [nI_clamp (by omega)] at hw
  obtain ⟨h4, hh4⟩ : ∃ x9, z_put h3 (ma 9) (29, 3) (.inl (g.2.1 1, 2000, .inl (upd ns R.1 0))) = x9 := ⟨_, rfl⟩
  have hw : z_S g A s.heap h4 H locs := by rw [← hh4]; exact hw
  have f4_mo : h4 mo = some ((20, 0), .inr (11, mF ma cod tpd siz fls cls9 ffl fcl (nI R.1) (nI (tbC R.2 R.1)) ous at9 il)) := by rw [← hh4]; exact z_keep f3_ma_9 f3_mo (z_t1 (by decide))
  have f4_ma_6 : h4 (ma 6) = some ((29, 0), .inl (g.2.1 1, 2000, .inl (upd nf R.1 fi))) := by rw [← hh4]; exact z_keep f3_ma_9 f3_ma_6 (by decide)
  have f4_ma_7 : h4 (ma 7) = some ((29, 1), .inl (g.2.1 1, 2000, .inl (upd np R.1 pa))) := by rw [← hh4]; exact z_keep f3_ma_9 f3_ma_7 (by decide)
  have f4_ma_8 : h4 (ma 8) = some ((29, 2), .inl (g.2.1 1, 2000, .inl (upd nr R.1 (nI (tbC R.2 R.1))))) := by rw [← hh4]; exact z_keep f3_ma_9 f3_ma_8 (by decide)
  have f4_ma_9 : h4 (ma 9) = some ((29, 3), .inl (g.2.1 1, 2000, .inl (upd ns R.1 0))) := by rw [← hh4]; exact z_put_eq
  have f4_ma_10 : h4 (ma 10) = some ((30, 0), .inl (g.2.1 2, 2000, .inr (.inl nv))) := by rw [← hh4]; exact z_keep f3_ma_9 f3_ma_10 (z_t1 (by decide))
  have f4_ma_11 : h4 (ma 11) = some ((31, 0), .inl (g.2.1 1, 16000, .inl tx)) := by rw [← hh4]; exact z_keep f3_ma_9 f3_ma_11 (z_t1 (by decide))
  have kk4 : z_K (fun y => y = 20 ∨ y = 29 ∨ y = 30) h h4 := kk3.tr (by rw [← hh4]; exact z_K.put f3_ma_9 (by first | decide | simp | omega))
  refine lv_aload_n hx hb d_M_node_43 rfl (lv_at hl 0 rfl) ?_
  refine z_get hx hb hts (z_lay i_M) hown hK hw f4_mo rfl 17 (by decide) (z_in k_788 rfl) (fun _ h9 => h9) rfl d_M_node_44 ?_
  refine lv_aload_n hx hb d_M_node_47 rfl (lv_at hl 0 rfl) ?_
  refine z_get hx hb hts (z_lay i_M) hown hK hw f4_mo rfl 18 (by decide) (z_in k_789 rfl) (fun _ h9 => h9) rfl d_M_node_48 ?_
  refine lv_lload_n hx hb d_M_node_51 rfl (lv_at hl 3 rfl) ?_
  refine z_last hx hb hK hw f4_ma_10 2 rfl (vp_in_nI (by omega) (by omega)) d_M_node_52 (fun H locs hw => ?_)
  rw [nI_clamp (by omega)] at hw
  obtain ⟨h5, hh5⟩ : ∃ x9, z_put h4 (ma 10) (30, 0) (.inl (g.2.1 2, 2000, .inr (.inl (vp_updL nv R.1 v9)))) = x9 := ⟨_, rfl⟩
  have hw : z_S g A s.heap h5 H locs := by rw [← hh5]; exact hw
  have f5_mo : h5 mo = some ((20, 0), .inr (11, mF ma cod tpd siz fls cls9 ffl fcl (nI R.1) (nI (tbC R.2 R.1)) ous at9 il)) := by rw [← hh5]; exact z_keep f4_ma_10 f4_mo (z_t1 (by decide))
  have f5_ma_6 : h5 (ma 6) = some ((29, 0), .inl (g.2.1 1, 2000, .inl (upd nf R.1 fi))) := by rw [← hh5]; exact z_keep f4_ma_10 f4_ma_6 (z_t1 (by decide))
  have f5_ma_7 : h5 (ma 7) = some ((29, 1), .inl (g.2.1 1, 2000, .inl (upd np R.1 pa))) := by rw [← hh5]; exact z_keep f4_ma_10 f4_ma_7 (z_t1 (by decide))
  have f5_ma_8 : h5 (ma 8) = some ((29, 2), .inl (g.2.1 1, 2000, .inl (upd nr R.1 (nI (tbC R.2 R.1))))) := by rw [← hh5]; exact z_keep f4_ma_10 f4_ma_8 (z_t1 (by decide))
  have f5_ma_9 : h5 (ma 9) = some ((29, 3), .inl (g.2.1 1, 2000, .inl (upd ns R.1 0))) := by rw [← hh5]; exact z_keep f4_ma_10 f4_ma_9 (z_t1 (by decide))
  have f5_ma_10 : h5 (ma 10) = some ((30, 0), .inl (g.2.1 2, 2000, .inr (.inl (vp_updL nv R.1 v9)))) := by rw [← hh5]; exact z_put_eq
  have f5_ma_11 : h5 (ma 11) = some ((31, 0), .inl (g.2.1 1, 16000, .inl tx)) := by rw [← hh5]; exact z_keep f4_ma_10 f4_ma_11 (z_t1 (by decide))
  have kk5 : z_K (fun y => y = 20 ∨ y = 29 ∨ y = 30) h h5 := kk4.tr (by rw [← hh5]; exact z_K.put f4_ma_10 (by first | decide | simp | omega))
  refine lv_aload_n hx hb d_M_node_53 rfl (lv_at hl 0 rfl) ?_
  refine lv_dup hx hb d_M_node_54 rfl ?_
  refine z_get hx hb hts (z_lay i_M) hown hK hw f5_mo rfl 18 (by decide) (z_in k_789 rfl) (fun _ h9 => h9) rfl d_M_node_55 ?_
  refine lv_iconst (v := 1) hx hb d_M_node_58 (by decide) ?_
  refine lv_iadd hx hb d_M_node_59 ?_
  refine z_topi (y := nI (R.1 + 1)) (nI_add R.1 1) ?_
  refine z_putf (ty := .int) hx hb hts (z_lay i_M) t_M t_M_ok n_M hown hK hw f5_mo rfl 18 (by decide) (z_in k_789 rfl) (fun _ h9 => h9) rfl (by decide +kernel) rfl rfl (Nat.le_of_ble_eq_true rfl) d_M_node_60 (fun H locs hw => ?_)
  obtain ⟨h6, hh6⟩ : ∃ x9, z_put h5 mo (20, 0) (.inr (11, mF ma cod tpd siz fls cls9 ffl fcl (nI (R.1 + 1)) (nI (tbC R.2 R.1)) ous at9 il)) = x9 := ⟨_, rfl⟩
  have hw : z_S g A s.heap h6 H locs := by rw [← hh6]; exact hw
  have f6_mo : h6 mo = some ((20, 0), .inr (11, mF ma cod tpd siz fls cls9 ffl fcl (nI (R.1 + 1)) (nI (tbC R.2 R.1)) ous at9 il)) := by rw [← hh6]; exact z_put_eq
  have f6_ma_6 : h6 (ma 6) = some ((29, 0), .inl (g.2.1 1, 2000, .inl (upd nf R.1 fi))) := by rw [← hh6]; exact z_keep f5_mo f5_ma_6 (z_t1 (by decide))
  have f6_ma_7 : h6 (ma 7) = some ((29, 1), .inl (g.2.1 1, 2000, .inl (upd np R.1 pa))) := by rw [← hh6]; exact z_keep f5_mo f5_ma_7 (z_t1 (by decide))
  have f6_ma_8 : h6 (ma 8) = some ((29, 2), .inl (g.2.1 1, 2000, .inl (upd nr R.1 (nI (tbC R.2 R.1))))) := by rw [← hh6]; exact z_keep f5_mo f5_ma_8 (z_t1 (by decide))
  have f6_ma_9 : h6 (ma 9) = some ((29, 3), .inl (g.2.1 1, 2000, .inl (upd ns R.1 0))) := by rw [← hh6]; exact z_keep f5_mo f5_ma_9 (z_t1 (by decide))
  have f6_ma_10 : h6 (ma 10) = some ((30, 0), .inl (g.2.1 2, 2000, .inr (.inl (vp_updL nv R.1 v9)))) := by rw [← hh6]; exact z_keep f5_mo f5_ma_10 (z_t1 (by decide))
  have f6_ma_11 : h6 (ma 11) = some ((31, 0), .inl (g.2.1 1, 16000, .inl tx)) := by rw [← hh6]; exact z_keep f5_mo f5_ma_11 (z_t1 (by decide))
  have kk6 : z_K (fun y => y = 20 ∨ y = 29 ∨ y = 30) h h6 := kk5.tr (by rw [← hh6]; exact z_K.put f5_mo (by first | decide | simp | omega))
  refine lv_aload_n hx hb d_M_node_63 rfl (lv_at hl 0 rfl) ?_
  refine z_get hx hb hts (z_lay i_M) hown hK hw f6_mo rfl 18 (by decide) (z_in k_789 rfl) (fun _ h9 => h9) rfl d_M_node_64 ?_
  refine lv_iconst (v := 1) hx hb d_M_node_67 (by decide) ?_
  refine lv_isub hx hb d_M_node_68 ?_
  refine z_topi (y := nI R.1) (by rw [show R.1 = R.1 + 1 - 1 by omega]; exact pk_sub (a := R.1 + 1) (b := 1) (by omega)) ?_
  exact z_iret hx hb hr hlocks hw ⟨rfl, f6_mo, ⟨_, _, _, _, _, _, hNd.add f6_ma_6 f6_ma_7 f6_ma_8 f6_ma_9 f6_ma_10 f6_ma_11⟩, kk6⟩ (by decide) (by decide) d_M_node_69

set_option maxHeartbeats 300000 in
set_option maxRecDepth 100000 in
theorem m_say (l : Launch) (g : z_G) (h : z_H) {mo : Nat} {ma : Nat → Nat} {cod tpd fls cls9 ffl fcl ous il : Int32} {siz at9 : Int32} {R : Rec} {nf np nr ns : Nat → Int32} {nv : Nat → Int64} {tx : Nat → Int32} {pa fi : Int32} {v9 : Int64} {l9 : List Nat} {c9 : Nat} (hmo : h mo = some ((20, 0), .inr (11, mF ma cod tpd siz fls cls9 ffl fcl (nI (R.1 + 1)) (nI (tbC R.2 R.1 + l9.length)) ous at9 il))) (hNd : MNp g h ma (addN R (fi, pa, v9, l9)) nf np nr ns nv tx) (hR2 : R.1 < 2000) (hR0 : 0 < R.1) (hsa : tbC R.2 R.1 + l9.length < 16000) : z_C l y_M_say prog_13_method_27_code 2 (Option.none : Option Jvm.ClassFile.FieldType) 0 0 0 0 g [.ref mo, .int (nI c9)] h (fun x h1 => x = none ∧ h1 mo = some ((20, 0), .inr (11, mF ma cod tpd siz fls cls9 ffl fcl (nI (R.1 + 1)) (nI (tbC R.2 R.1 + l9.length + 1)) ous at9 il)) ∧ MNd g h1 ma (addN R (fi, pa, v9, l9 ++ [c9])) ∧ z_K (fun y => y = 20 ∨ y = 29 ∨ y = 31) h h1) := by
  refine z_C.of (by decide) (Nat.le_of_ble_eq_true rfl) (fun pg en s m below meth cd A ls hx hb hml hr hts hown hlocks hnm hK hE hA hw hl => ?_)
  have hl : lv_has ls 2 [(0, .ref mo), (1, .int (nI c9))] := hl
  have hlast := ((hNd.2.2.2.2.2.2 R.1 (Nat.lt_succ_self _)).2.2 hR0).2.1
  rw [addN_new] at hlast
  have kk0 : z_K (fun y => y = 20 ∨ y = 29 ∨ y = 31) h h := z_K.rf
  refine lv_aload_n hx hb d_M_say_0 rfl (lv_at hl 0 rfl) ?_
  refine z_get hx hb hts (z_lay i_M) hown hK hw hmo rfl 20 (by decide) (z_in k_791 rfl) (fun _ h9 => h9) rfl d_M_say_1 ?_
  refine lv_aload_n hx hb d_M_say_4 rfl (lv_at hl 0 rfl) ?_
  refine z_get hx hb hts (z_lay i_M) hown hK hw hmo rfl 19 (by decide) (z_in k_790 rfl) (fun _ h9 => h9) rfl d_M_say_5 ?_
  refine lv_iload_n hx hb d_M_say_8 rfl (lv_at hl 1 rfl) ?_
  refine z_iast hx hb hK hw hNd.2.2.2.2.2.1 1 rfl (vp_in_nI (by omega) (by omega)) d_M_say_9 (fun H locs hw => ?_)
  rw [nI_clamp (by omega)] at hw
  obtain ⟨h1, hh1⟩ : ∃ x9, z_put h (ma 11) (31, 0) (.inl (g.2.1 1, 16000, .inl (upd tx (tbC R.2 R.1 + l9.length) (nI c9)))) = x9 := ⟨_, rfl⟩
  have hw : z_S g A s.heap h1 H locs := by rw [← hh1]; exact hw
  have f1_mo : h1 mo = some ((20, 0), .inr (11, mF ma cod tpd siz fls cls9 ffl fcl (nI (R.1 + 1)) (nI (tbC R.2 R.1 + l9.length)) ous at9 il)) := by rw [← hh1]; exact z_keep hNd.2.2.2.2.2.1 hmo (z_t1 (by decide))
  have f1_ma_6 : h1 (ma 6) = some ((29, 0), .inl (g.2.1 1, 2000, .inl nf)) := by rw [← hh1]; exact z_keep hNd.2.2.2.2.2.1 hNd.1 (z_t1 (by decide))
  have f1_ma_7 : h1 (ma 7) = some ((29, 1), .inl (g.2.1 1, 2000, .inl np)) := by rw [← hh1]; exact z_keep hNd.2.2.2.2.2.1 hNd.2.1 (z_t1 (by decide))
  have f1_ma_8 : h1 (ma 8) = some ((29, 2), .inl (g.2.1 1, 2000, .inl nr)) := by rw [← hh1]; exact z_keep hNd.2.2.2.2.2.1 hNd.2.2.1 (z_t1 (by decide))
  have f1_ma_9 : h1 (ma 9) = some ((29, 3), .inl (g.2.1 1, 2000, .inl ns)) := by rw [← hh1]; exact z_keep hNd.2.2.2.2.2.1 hNd.2.2.2.1 (z_t1 (by decide))
  have f1_ma_10 : h1 (ma 10) = some ((30, 0), .inl (g.2.1 2, 2000, .inr (.inl nv))) := by rw [← hh1]; exact z_keep hNd.2.2.2.2.2.1 hNd.2.2.2.2.1 (z_t1 (by decide))
  have f1_ma_11 : h1 (ma 11) = some ((31, 0), .inl (g.2.1 1, 16000, .inl (upd tx (tbC R.2 R.1 + l9.length) (nI c9)))) := by rw [← hh1]; exact z_put_eq
  have kk1 : z_K (fun y => y = 20 ∨ y = 29 ∨ y = 31) h h1 := kk0.tr (by rw [← hh1]; exact z_K.put hNd.2.2.2.2.2.1 (by first | decide | simp | omega))
  refine lv_aload_n hx hb d_M_say_10 rfl (lv_at hl 0 rfl) ?_
  refine lv_dup hx hb d_M_say_11 rfl ?_
  refine z_get hx hb hts (z_lay i_M) hown hK hw f1_mo rfl 19 (by decide) (z_in k_790 rfl) (fun _ h9 => h9) rfl d_M_say_12 ?_
  refine lv_iconst (v := 1) hx hb d_M_say_15 (by decide) ?_
  refine lv_iadd hx hb d_M_say_16 ?_
  refine z_topi (y := nI ((tbC R.2 R.1 + l9.length) + 1)) (nI_add (tbC R.2 R.1 + l9.length) 1) ?_
  refine z_putf (ty := .int) hx hb hts (z_lay i_M) t_M t_M_ok n_M hown hK hw f1_mo rfl 19 (by decide) (z_in k_790 rfl) (fun _ h9 => h9) rfl (by decide +kernel) rfl rfl (Nat.le_of_ble_eq_true rfl) d_M_say_17 (fun H locs hw => ?_)
  obtain ⟨h2, hh2⟩ : ∃ x9, z_put h1 mo (20, 0) (.inr (11, mF ma cod tpd siz fls cls9 ffl fcl (nI (R.1 + 1)) (nI ((tbC R.2 R.1 + l9.length) + 1)) ous at9 il)) = x9 := ⟨_, rfl⟩
  have hw : z_S g A s.heap h2 H locs := by rw [← hh2]; exact hw
  have f2_mo : h2 mo = some ((20, 0), .inr (11, mF ma cod tpd siz fls cls9 ffl fcl (nI (R.1 + 1)) (nI ((tbC R.2 R.1 + l9.length) + 1)) ous at9 il)) := by rw [← hh2]; exact z_put_eq
  have f2_ma_6 : h2 (ma 6) = some ((29, 0), .inl (g.2.1 1, 2000, .inl nf)) := by rw [← hh2]; exact z_keep f1_mo f1_ma_6 (z_t1 (by decide))
  have f2_ma_7 : h2 (ma 7) = some ((29, 1), .inl (g.2.1 1, 2000, .inl np)) := by rw [← hh2]; exact z_keep f1_mo f1_ma_7 (z_t1 (by decide))
  have f2_ma_8 : h2 (ma 8) = some ((29, 2), .inl (g.2.1 1, 2000, .inl nr)) := by rw [← hh2]; exact z_keep f1_mo f1_ma_8 (z_t1 (by decide))
  have f2_ma_9 : h2 (ma 9) = some ((29, 3), .inl (g.2.1 1, 2000, .inl ns)) := by rw [← hh2]; exact z_keep f1_mo f1_ma_9 (z_t1 (by decide))
  have f2_ma_10 : h2 (ma 10) = some ((30, 0), .inl (g.2.1 2, 2000, .inr (.inl nv))) := by rw [← hh2]; exact z_keep f1_mo f1_ma_10 (z_t1 (by decide))
  have f2_ma_11 : h2 (ma 11) = some ((31, 0), .inl (g.2.1 1, 16000, .inl (upd tx (tbC R.2 R.1 + l9.length) (nI c9)))) := by rw [← hh2]; exact z_keep f1_mo f1_ma_11 (z_t1 (by decide))
  have kk2 : z_K (fun y => y = 20 ∨ y = 29 ∨ y = 31) h h2 := kk1.tr (by rw [← hh2]; exact z_K.put f1_mo (by first | decide | simp | omega))
  refine lv_aload_n hx hb d_M_say_20 rfl (lv_at hl 0 rfl) ?_
  refine z_get hx hb hts (z_lay i_M) hown hK hw f2_mo rfl 16 (by decide) (z_in k_787 rfl) (fun _ h9 => h9) rfl d_M_say_21 ?_
  refine lv_aload_n hx hb d_M_say_24 rfl (lv_at hl 0 rfl) ?_
  refine z_get hx hb hts (z_lay i_M) hown hK hw f2_mo rfl 18 (by decide) (z_in k_789 rfl) (fun _ h9 => h9) rfl d_M_say_25 ?_
  refine lv_iconst (v := 1) hx hb d_M_say_28 (by decide) ?_
  refine lv_isub hx hb d_M_say_29 ?_
  refine z_topi (y := nI R.1) (by rw [show R.1 = R.1 + 1 - 1 by omega]; exact pk_sub (a := R.1 + 1) (b := 1) (by omega)) ?_
  refine lv_dup2_11 hx hb d_M_say_30 rfl rfl ?_
  refine z_iald hx hb hK hw f2_ma_9 1 rfl (vp_in_nI (by omega) (by omega)) d_M_say_31 ?_
  refine z_topi (y := ns R.1) (by rw [nI_clamp (by omega)]) ?_
  refine z_top (y := .int (nI l9.length)) (by rw [hlast]) ?_
  refine lv_iconst (v := 1) hx hb d_M_say_32 (by decide) ?_
  refine lv_iadd hx hb d_M_say_33 ?_
  refine z_topi (y := nI (l9.length + 1)) (nI_add l9.length 1) ?_
  refine z_iast hx hb hK hw f2_ma_9 1 rfl (vp_in_nI (by omega) (by omega)) d_M_say_34 (fun H locs hw => ?_)
  rw [nI_clamp (by omega)] at hw
  obtain ⟨h3, hh3⟩ : ∃ x9, z_put h2 (ma 9) (29, 3) (.inl (g.2.1 1, 2000, .inl (upd ns R.1 (nI (l9.length + 1))))) = x9 := ⟨_, rfl⟩
  have hw : z_S g A s.heap h3 H locs := by rw [← hh3]; exact hw
  have f3_mo : h3 mo = some ((20, 0), .inr (11, mF ma cod tpd siz fls cls9 ffl fcl (nI (R.1 + 1)) (nI ((tbC R.2 R.1 + l9.length) + 1)) ous at9 il)) := by rw [← hh3]; exact z_keep f2_ma_9 f2_mo (z_t1 (by decide))
  have f3_ma_6 : h3 (ma 6) = some ((29, 0), .inl (g.2.1 1, 2000, .inl nf)) := by rw [← hh3]; exact z_keep f2_ma_9 f2_ma_6 (by decide)
  have f3_ma_7 : h3 (ma 7) = some ((29, 1), .inl (g.2.1 1, 2000, .inl np)) := by rw [← hh3]; exact z_keep f2_ma_9 f2_ma_7 (by decide)
  have f3_ma_8 : h3 (ma 8) = some ((29, 2), .inl (g.2.1 1, 2000, .inl nr)) := by rw [← hh3]; exact z_keep f2_ma_9 f2_ma_8 (by decide)
  have f3_ma_9 : h3 (ma 9) = some ((29, 3), .inl (g.2.1 1, 2000, .inl (upd ns R.1 (nI (l9.length + 1))))) := by rw [← hh3]; exact z_put_eq
  have f3_ma_10 : h3 (ma 10) = some ((30, 0), .inl (g.2.1 2, 2000, .inr (.inl nv))) := by rw [← hh3]; exact z_keep f2_ma_9 f2_ma_10 (z_t1 (by decide))
  have f3_ma_11 : h3 (ma 11) = some ((31, 0), .inl (g.2.1 1, 16000, .inl (upd tx (tbC R.2 R.1 + l9.length) (nI c9)))) := by rw [← hh3]; exact z_keep f2_ma_9 f2_ma_11 (z_t1 (by decide))
  have kk3 : z_K (fun y => y = 20 ∨ y = 29 ∨ y = 31) h h3 := kk2.tr (by rw [← hh3]; exact z_K.put f2_ma_9 (by first | decide | simp | omega))
  exact z_vret hx hb hr hlocks hw ⟨rfl, f3_mo, ⟨_, _, _, _, _, _, hNd.say hR0 f3_ma_6 f3_ma_7 f3_ma_8 f3_ma_9 f3_ma_10 f3_ma_11⟩, kk3⟩ (by decide) (by decide) d_M_say_35

def escP (X : Sum Nat (Int32 × Nat)) (h : z_H) (mo : Nat) (ma : Nat → Nat) (cod tpd fls cls9 ffl fcl nds sai ous : Int32) (n b9 : Nat) (x : Option Value) (h1 : z_H) : Prop := match X with
  | .inl F => ∃ q, b9 ≤ q ∧ q ≤ n ∧ x = some (.int 0) ∧ z_put h mo (20, 0) (.inr (11, mF ma cod tpd (nI n) fls cls9 ffl fcl nds sai ous (nI q) (nI F))) = h1
  | .inr y => x = some (.int y.1) ∧ z_put h mo (20, 0) (.inr (11, mF ma cod tpd (nI n) fls cls9 ffl fcl nds sai ous (nI y.2) (-1))) = h1
theorem bt_ne1 {t : Nat → Nat} {n p : Nat} (h : ¬ bt t n p = -1) : p < n := by
  apply Classical.byContradiction
  intro z
  exact h (bt_out z)

set_option maxHeartbeats 2000000 in
set_option maxRecDepth 100000 in
theorem m_behind (l : Launch) (g : z_G) (h : z_H) {mo : Nat} {ma : Nat → Nat} {cod tpd fls cls9 ffl fcl nds sai ous : Int32} {n b9 : Nat} {f : Nat → Int32} {t : Nat → Nat} (hmo : h mo = some ((20, 0), .inr (11, mF ma cod tpd (nI n) fls cls9 ffl fcl nds sai ous (nI (b9 + 1)) (-1)))) (htx : h (ma 1) = some ((22, 0), .inl (g.2.1 1, 4000, .inl f))) (hn : n ≤ 4000) (hf : ∀ k, k < n → t k < 256 ∧ f k = nI (t k)) (hp : b9 < n) : z_C l y_M_behind prog_13_method_29_code 7 (Option.some Jvm.ClassFile.FieldType.int) 1 50 0 0 g [.ref mo, .int (nI b9)] h (escP (escR t n b9) h mo ma cod tpd fls cls9 ffl fcl nds sai ous n b9) := by
  refine z_C.of (by decide) (Nat.le_of_ble_eq_true rfl) (fun pg en s m below meth cd A ls hx hb hml hr hts hown hlocks hnm hK hE hA hw hl => ?_)
  have hl : lv_has ls 7 [(0, .ref mo), (1, .int (nI b9))] := hl
  refine lv_aload_n hx hb d_M_behind_0 rfl (lv_at hl 0 rfl) ?_
  refine z_callV (n := 0) (As := []) (rest := []) ⟨hx, hb, hml, hown, hts⟩ (m_look (t := t) l g h hmo htx hn hf (by omega)) (z_in k_889 rfl) (z_in k_7 rfl) (z_in k_886 rfl) (z_in k_888 rfl) (z_in ks_28 rfl) (by decide +kernel) ⟨by first | exact Nat.le_of_ble_eq_true rfl | (dsimp only; omega) | omega, by first | exact Nat.le_of_ble_eq_true rfl | (dsimp only; omega) | omega⟩ hK hE hw hA rfl hmo rfl hl.1 (Nat.le_of_ble_eq_true rfl) d_M_behind_1 ⟨by first | exact Nat.le_of_ble_eq_true rfl | (dsimp only; omega) | omega, by first | exact Nat.le_of_ble_eq_true rfl | (dsimp only; omega) | omega⟩ rfl (fun r9 h9 H locs hp hw => ?_)
  obtain ⟨r8, h8⟩ := hp
  subst r8
  subst h8
  refine W.eq (g2 := F0 m 4 ls [.int (bt t n (b9 + 1))]) rfl ?_
  refine lv_istore_n (lv' := [(2, .int (bt t n (b9 + 1))), (0, .ref mo), (1, .int (nI b9))]) hx hb d_M_behind_4 rfl hl (by decide) rfl (fun ls hl => ?_)
  refine lv_iload_n hx hb d_M_behind_5 rfl (lv_at hl 0 rfl) ?_
  refine lv_iconst (v := (-1)) hx hb d_M_behind_6 (by decide) ?_
  refine lv_icmp_ne (tgt := 20) hx hb d_M_behind_7 (by decide) (fun c_7 => ?_) (fun c_7 => ?_)
  · -- 7: True
    have l20 := bt_ne1 (show ¬ bt t n (b9 + 1) = -1 from c_7)
    refine lv_aload_n hx hb d_M_behind_20 rfl (lv_at hl 1 rfl) ?_
    refine lv_dup hx hb d_M_behind_21 rfl ?_
    refine z_get hx hb hts (z_lay i_M) hown hK hw hmo rfl 29 (by decide) (z_in k_800 rfl) (fun _ h9 => h9) rfl d_M_behind_22 ?_
    refine lv_iconst (v := 1) hx hb d_M_behind_25 (by decide) ?_
    refine lv_iadd hx hb d_M_behind_26 ?_
    refine z_topi (y := nI ((b9 + 1) + 1)) (nI_add (b9 + 1) 1) ?_
    refine z_putf (ty := .int) hx hb hts (z_lay i_M) t_M t_M_ok n_M hown hK hw hmo rfl 29 (by decide) (z_in k_800 rfl) (fun _ h9 => h9) rfl (by decide +kernel) rfl rfl (Nat.le_of_ble_eq_true rfl) d_M_behind_27 (fun H locs hw => ?_)
    obtain ⟨h1, hh1⟩ : ∃ x9, z_put h mo (20, 0) (.inr (11, mF ma cod tpd (nI n) fls cls9 ffl fcl nds sai ous (nI ((b9 + 1) + 1)) (-1))) = x9 := ⟨_, rfl⟩
    have hw : z_S g A s.heap h1 H locs := by rw [← hh1]; exact hw
    have f1_mo : h1 mo = some ((20, 0), .inr (11, mF ma cod tpd (nI n) fls cls9 ffl fcl nds sai ous (nI ((b9 + 1) + 1)) (-1))) := by rw [← hh1]; exact z_put_eq
    have f1_ma_1 : h1 (ma 1) = some ((22, 0), .inl (g.2.1 1, 4000, .inl f)) := by rw [← hh1]; exact z_keep hmo htx (z_t1 (by decide))
    refine lv_iload_n hx hb d_M_behind_30 rfl (lv_at hl 0 rfl) ?_
    refine lv_bipush (v := 39) hx hb d_M_behind_31 (by decide) ?_
    refine lv_icmp_eq (tgt := 42) hx hb d_M_behind_33 (by decide) (fun c_33 => ?_) (fun c_33 => ?_)
    · -- 33: True
      refine lv_iload_n hx hb d_M_behind_42 rfl (lv_at hl 0 rfl) ?_
      exact z_iret hx hb hr hlocks hw (by unfold escP; rw [show escR t n b9 = .inr (bt t n (b9 + 1), b9 + 2) by unfold escR; rw [if_pos (Or.inl c_33)]]; exact ⟨rfl, by rw [← hh1]⟩) (by decide) (by decide) d_M_behind_43
    · -- 33: False
      refine lv_iload_n hx hb d_M_behind_36 rfl (lv_at hl 0 rfl) ?_
      refine lv_bipush (v := 92) hx hb d_M_behind_37 (by decide) ?_
      refine lv_icmp_ne (tgt := 44) hx hb d_M_behind_39 (by decide) (fun c_39 => ?_) (fun c_39 => ?_)
      · -- 39: True
        refine lv_iload_n hx hb d_M_behind_44 rfl (lv_at hl 0 rfl) ?_
        refine lv_bipush (v := 120) hx hb d_M_behind_45 (by decide) ?_
        refine lv_icmp_eq (tgt := 57) hx hb d_M_behind_47 (by decide) (fun c_47 => ?_) (fun c_47 => ?_)
        · -- 47: True
          refine lv_iconst (v := 0) hx hb d_M_behind_57 (by decide) ?_
          refine lv_istore_n (lv' := [(3, .int 0), (2, .int (bt t n (b9 + 1))), (0, .ref mo), (1, .int (nI b9))]) hx hb d_M_behind_58 rfl hl (by decide) rfl (fun ls hl => ?_)
          refine lv_iconst (v := 0) hx hb d_M_behind_59 (by decide) ?_
          refine lv_istore (lv' := [(4, .int 0), (3, .int 0), (2, .int (bt t n (b9 + 1))), (0, .ref mo), (1, .int (nI b9))]) hx hb d_M_behind_60 hl (by decide) rfl (fun ls hl => ?_)
          refine lv_iload hx hb d_M_behind_62 (lv_at hl 0 rfl) ?_
          refine lv_iconst (v := 2) hx hb d_M_behind_64 (by decide) ?_
          refine lv_icmp_ge (tgt := 168) hx hb d_M_behind_65 (by decide) (fun c_65 => ?_) (fun c_65 => ?_)
          · -- 65: True
            exact absurd c_65 (by decide)
          · -- 65: False
            refine lv_aload_n hx hb d_M_behind_68 rfl (lv_at hl 3 rfl) ?_
            refine z_callV (n := 0) (As := []) (rest := []) ⟨hx, hb, hml, hown, hts⟩ (m_look (t := t) l g h1 f1_mo f1_ma_1 hn hf (by omega)) (z_in k_889 rfl) (z_in k_7 rfl) (z_in k_886 rfl) (z_in k_888 rfl) (z_in ks_28 rfl) (by decide +kernel) ⟨by first | exact Nat.le_of_ble_eq_true rfl | (dsimp only; omega) | omega, by first | exact Nat.le_of_ble_eq_true rfl | (dsimp only; omega) | omega⟩ hK hE hw hA rfl f1_mo rfl hl.1 (Nat.le_of_ble_eq_true rfl) d_M_behind_69 ⟨by first | exact Nat.le_of_ble_eq_true rfl | (dsimp only; omega) | omega, by first | exact Nat.le_of_ble_eq_true rfl | (dsimp only; omega) | omega⟩ rfl (fun r9 h9 H locs hp hw => ?_)
            obtain ⟨r8, h8⟩ := hp
            subst r8
            subst h8
            refine W.eq (g2 := F0 m 72 ls [.int (bt t n ((b9 + 1) + 1))]) rfl ?_
            refine lv_istore (lv' := [(5, .int (bt t n ((b9 + 1) + 1))), (4, .int 0), (3, .int 0), (2, .int (bt t n (b9 + 1))), (0, .ref mo), (1, .int (nI b9))]) hx hb d_M_behind_72 hl (by decide) rfl (fun ls hl => ?_)
            refine lv_iload hx hb d_M_behind_74 (lv_at hl 0 rfl) ?_
            refine z_callS (n := 1) (As := [.int (bt t n ((b9 + 1) + 1))]) (rest := []) ⟨hx, hb, hml, hown, hts⟩ (m_isDigit l g h1) (z_in k_908 rfl) (z_in k_7 rfl) (z_in k_906 rfl) (z_in k_907 rfl) (by decide +kernel) ⟨by first | exact Nat.le_of_ble_eq_true rfl | (dsimp only; omega) | omega, by first | exact Nat.le_of_ble_eq_true rfl | (dsimp only; omega) | omega⟩ hK hE hw hA rfl hl.1 (Nat.le_of_ble_eq_true rfl) d_M_behind_76 ⟨by first | exact Nat.le_of_ble_eq_true rfl | (dsimp only; omega) | omega, by first | exact Nat.le_of_ble_eq_true rfl | (dsimp only; omega) | omega⟩ rfl (fun r9 h9 H locs hp hw => ?_)
            obtain ⟨r8, h8⟩ := hp
            subst r8
            subst h8
            refine W.eq (g2 := F0 m 79 ls [.int (zb (isDig (bt t n ((b9 + 1) + 1))))]) rfl ?_
            refine lv_if_eq (tgt := 90) hx hb d_M_behind_79 (by decide) (fun c_79 => ?_) (fun c_79 => ?_)
            · -- 79: True
              have c_79 : (isDig (bt t n ((b9 + 1) + 1))) = false := zb_f c_79
              refine lv_iload hx hb d_M_behind_90 (lv_at hl 0 rfl) ?_
              refine lv_bipush (v := 97) hx hb d_M_behind_92 (by decide) ?_
              refine lv_icmp_lt (tgt := 115) hx hb d_M_behind_94 (by decide) (fun c_94 => ?_) (fun c_94 => ?_)
              · -- 94: True
                refine lv_iconst (v := (-1)) hx hb d_M_behind_115 (by decide) ?_
                refine z_topi (y := zh (bt t n ((b9 + 1) + 1))) (by unfold zh; rw [if_neg (by rw [c_79]; decide), if_neg (fun z => absurd z.1 (Int32.not_le.mpr c_94))]) ?_
                refine lv_istore (lv' := [(6, .int (zh (bt t n ((b9 + 1) + 1)))), (5, .int (bt t n ((b9 + 1) + 1))), (4, .int 0), (3, .int 0), (2, .int (bt t n (b9 + 1))), (0, .ref mo), (1, .int (nI b9))]) hx hb d_M_behind_116 hl (by decide) rfl (fun ls hl => ?_)
                refine lv_iload hx hb d_M_behind_118 (lv_at hl 0 rfl) ?_
                refine lv_iconst (v := (-1)) hx hb d_M_behind_120 (by decide) ?_
                refine lv_icmp_ne (tgt := 144) hx hb d_M_behind_121 (by decide) (fun c_121 => ?_) (fun c_121 => ?_)
                · -- 121: True
                  have zo0 : ¬ zh (bt t n ((b9 + 1) + 1)) = -1 := c_121
                  have zl0 := (zh_bt (fun k hk => (hf k hk).1) zo0).1
                  refine lv_bipush (v := 16) hx hb d_M_behind_144 (by decide) ?_
                  refine lv_iload_n hx hb d_M_behind_146 rfl (lv_at hl 3 rfl) ?_
                  refine lv_imul hx hb d_M_behind_147 ?_
                  refine z_topi (y := 0) (by decide) ?_
                  refine lv_iload hx hb d_M_behind_148 (lv_at hl 0 rfl) ?_
                  refine lv_iadd hx hb d_M_behind_150 ?_
                  refine lv_istore_n (lv' := [(3, .int (0 + (zh (bt t n ((b9 + 1) + 1))))), (6, .int (zh (bt t n ((b9 + 1) + 1)))), (5, .int (bt t n ((b9 + 1) + 1))), (4, .int 0), (2, .int (bt t n (b9 + 1))), (0, .ref mo), (1, .int (nI b9))]) hx hb d_M_behind_151 rfl hl (by decide) rfl (fun ls hl => ?_)
                  refine lv_aload_n hx hb d_M_behind_152 rfl (lv_at hl 5 rfl) ?_
                  refine lv_dup hx hb d_M_behind_153 rfl ?_
                  refine z_get hx hb hts (z_lay i_M) hown hK hw f1_mo rfl 29 (by decide) (z_in k_800 rfl) (fun _ h9 => h9) rfl d_M_behind_154 ?_
                  refine lv_iconst (v := 1) hx hb d_M_behind_157 (by decide) ?_
                  refine lv_iadd hx hb d_M_behind_158 ?_
                  refine z_topi (y := nI (((b9 + 1) + 1) + 1)) (nI_add ((b9 + 1) + 1) 1) ?_
                  refine z_putf (ty := .int) hx hb hts (z_lay i_M) t_M t_M_ok n_M hown hK hw f1_mo rfl 29 (by decide) (z_in k_800 rfl) (fun _ h9 => h9) rfl (by decide +kernel) rfl rfl (Nat.le_of_ble_eq_true rfl) d_M_behind_159 (fun H locs hw => ?_)
                  obtain ⟨h2, hh2⟩ : ∃ x9, z_put h1 mo (20, 0) (.inr (11, mF ma cod tpd (nI n) fls cls9 ffl fcl nds sai ous (nI (((b9 + 1) + 1) + 1)) (-1))) = x9 := ⟨_, rfl⟩
                  have hw : z_S g A s.heap h2 H locs := by rw [← hh2]; exact hw
                  have f2_mo : h2 mo = some ((20, 0), .inr (11, mF ma cod tpd (nI n) fls cls9 ffl fcl nds sai ous (nI (((b9 + 1) + 1) + 1)) (-1))) := by rw [← hh2]; exact z_put_eq
                  have f2_ma_1 : h2 (ma 1) = some ((22, 0), .inl (g.2.1 1, 4000, .inl f)) := by rw [← hh2]; exact z_keep f1_mo f1_ma_1 (z_t1 (by decide))
                  refine lv_iinc (v := 1) (lv' := [(4, .int 1), (3, .int (0 + (zh (bt t n ((b9 + 1) + 1))))), (6, .int (zh (bt t n ((b9 + 1) + 1)))), (5, .int (bt t n ((b9 + 1) + 1))), (2, .int (bt t n (b9 + 1))), (0, .ref mo), (1, .int (nI b9))]) hx hb d_M_behind_162 hl (k := 3) rfl (by decide) (by decide) rfl (fun ls hl => ?_)
                  refine lv_goto (tgt := 62) hx hb d_M_behind_165 (by decide) ?_
                  refine lv_iload hx hb d_M_behind_62 (lv_at hl 0 rfl) ?_
                  refine lv_iconst (v := 2) hx hb d_M_behind_64 (by decide) ?_
                  refine lv_icmp_ge (tgt := 168) hx hb d_M_behind_65 (by decide) (fun c_65 => ?_) (fun c_65 => ?_)
                  · -- 65: True
                    exact absurd c_65 (by decide)
                  · -- 65: False
                    refine lv_aload_n hx hb d_M_behind_68 rfl (lv_at hl 5 rfl) ?_
                    refine z_callV (n := 0) (As := []) (rest := []) ⟨hx, hb, hml, hown, hts⟩ (m_look (t := t) l g h2 f2_mo f2_ma_1 hn hf (by omega)) (z_in k_889 rfl) (z_in k_7 rfl) (z_in k_886 rfl) (z_in k_888 rfl) (z_in ks_28 rfl) (by decide +kernel) ⟨by first | exact Nat.le_of_ble_eq_true rfl | (dsimp only; omega) | omega, by first | exact Nat.le_of_ble_eq_true rfl | (dsimp only; omega) | omega⟩ hK hE hw hA rfl f2_mo rfl hl.1 (Nat.le_of_ble_eq_true rfl) d_M_behind_69 ⟨by first | exact Nat.le_of_ble_eq_true rfl | (dsimp only; omega) | omega, by first | exact Nat.le_of_ble_eq_true rfl | (dsimp only; omega) | omega⟩ rfl (fun r9 h9 H locs hp hw => ?_)
                    obtain ⟨r8, h8⟩ := hp
                    subst r8
                    subst h8
                    refine W.eq (g2 := F0 m 72 ls [.int (bt t n (((b9 + 1) + 1) + 1))]) rfl ?_
                    refine lv_istore (lv' := [(5, .int (bt t n (((b9 + 1) + 1) + 1))), (4, .int 1), (3, .int (0 + (zh (bt t n ((b9 + 1) + 1))))), (6, .int (zh (bt t n ((b9 + 1) + 1)))), (2, .int (bt t n (b9 + 1))), (0, .ref mo), (1, .int (nI b9))]) hx hb d_M_behind_72 hl (by decide) rfl (fun ls hl => ?_)
                    refine lv_iload hx hb d_M_behind_74 (lv_at hl 0 rfl) ?_
                    refine z_callS (n := 1) (As := [.int (bt t n (((b9 + 1) + 1) + 1))]) (rest := []) ⟨hx, hb, hml, hown, hts⟩ (m_isDigit l g h2) (z_in k_908 rfl) (z_in k_7 rfl) (z_in k_906 rfl) (z_in k_907 rfl) (by decide +kernel) ⟨by first | exact Nat.le_of_ble_eq_true rfl | (dsimp only; omega) | omega, by first | exact Nat.le_of_ble_eq_true rfl | (dsimp only; omega) | omega⟩ hK hE hw hA rfl hl.1 (Nat.le_of_ble_eq_true rfl) d_M_behind_76 ⟨by first | exact Nat.le_of_ble_eq_true rfl | (dsimp only; omega) | omega, by first | exact Nat.le_of_ble_eq_true rfl | (dsimp only; omega) | omega⟩ rfl (fun r9 h9 H locs hp hw => ?_)
                    obtain ⟨r8, h8⟩ := hp
                    subst r8
                    subst h8
                    refine W.eq (g2 := F0 m 79 ls [.int (zb (isDig (bt t n (((b9 + 1) + 1) + 1))))]) rfl ?_
                    refine lv_if_eq (tgt := 90) hx hb d_M_behind_79 (by decide) (fun c_79 => ?_) (fun c_79 => ?_)
                    · -- 79: True
                      have c_79 : (isDig (bt t n (((b9 + 1) + 1) + 1))) = false := zb_f c_79
                      refine lv_iload hx hb d_M_behind_90 (lv_at hl 0 rfl) ?_
                      refine lv_bipush (v := 97) hx hb d_M_behind_92 (by decide) ?_
                      refine lv_icmp_lt (tgt := 115) hx hb d_M_behind_94 (by decide) (fun c_94 => ?_) (fun c_94 => ?_)
                      · -- 94: True
                        refine lv_iconst (v := (-1)) hx hb d_M_behind_115 (by decide) ?_
                        refine z_topi (y := zh (bt t n (((b9 + 1) + 1) + 1))) (by unfold zh; rw [if_neg (by rw [c_79]; decide), if_neg (fun z => absurd z.1 (Int32.not_le.mpr c_94))]) ?_
                        refine lv_istore (lv' := [(6, .int (zh (bt t n (((b9 + 1) + 1) + 1)))), (5, .int (bt t n (((b9 + 1) + 1) + 1))), (4, .int 1), (3, .int (0 + (zh (bt t n ((b9 + 1) + 1))))), (2, .int (bt t n (b9 + 1))), (0, .ref mo), (1, .int (nI b9))]) hx hb d_M_behind_116 hl (by decide) rfl (fun ls hl => ?_)
                        refine lv_iload hx hb d_M_behind_118 (lv_at hl 0 rfl) ?_
                        refine lv_iconst (v := (-1)) hx hb d_M_behind_120 (by decide) ?_
                        refine lv_icmp_ne (tgt := 144) hx hb d_M_behind_121 (by decide) (fun c_121 => ?_) (fun c_121 => ?_)
                        · -- 121: True
                          have zo1 : ¬ zh (bt t n (((b9 + 1) + 1) + 1)) = -1 := c_121
                          have zl1 := (zh_bt (fun k hk => (hf k hk).1) zo1).1
                          refine lv_bipush (v := 16) hx hb d_M_behind_144 (by decide) ?_
                          refine lv_iload_n hx hb d_M_behind_146 rfl (lv_at hl 3 rfl) ?_
                          refine lv_imul hx hb d_M_behind_147 ?_
                          refine lv_iload hx hb d_M_behind_148 (lv_at hl 0 rfl) ?_
                          refine lv_iadd hx hb d_M_behind_150 ?_
                          refine lv_istore_n (lv' := [(3, .int ((16 * (0 + (zh (bt t n ((b9 + 1) + 1))))) + (zh (bt t n (((b9 + 1) + 1) + 1))))), (6, .int (zh (bt t n (((b9 + 1) + 1) + 1)))), (5, .int (bt t n (((b9 + 1) + 1) + 1))), (4, .int 1), (2, .int (bt t n (b9 + 1))), (0, .ref mo), (1, .int (nI b9))]) hx hb d_M_behind_151 rfl hl (by decide) rfl (fun ls hl => ?_)
                          refine lv_aload_n hx hb d_M_behind_152 rfl (lv_at hl 5 rfl) ?_
                          refine lv_dup hx hb d_M_behind_153 rfl ?_
                          refine z_get hx hb hts (z_lay i_M) hown hK hw f2_mo rfl 29 (by decide) (z_in k_800 rfl) (fun _ h9 => h9) rfl d_M_behind_154 ?_
                          refine lv_iconst (v := 1) hx hb d_M_behind_157 (by decide) ?_
                          refine lv_iadd hx hb d_M_behind_158 ?_
                          refine z_topi (y := nI ((((b9 + 1) + 1) + 1) + 1)) (nI_add (((b9 + 1) + 1) + 1) 1) ?_
                          refine z_putf (ty := .int) hx hb hts (z_lay i_M) t_M t_M_ok n_M hown hK hw f2_mo rfl 29 (by decide) (z_in k_800 rfl) (fun _ h9 => h9) rfl (by decide +kernel) rfl rfl (Nat.le_of_ble_eq_true rfl) d_M_behind_159 (fun H locs hw => ?_)
                          obtain ⟨h3, hh3⟩ : ∃ x9, z_put h2 mo (20, 0) (.inr (11, mF ma cod tpd (nI n) fls cls9 ffl fcl nds sai ous (nI ((((b9 + 1) + 1) + 1) + 1)) (-1))) = x9 := ⟨_, rfl⟩
                          have hw : z_S g A s.heap h3 H locs := by rw [← hh3]; exact hw
                          have f3_mo : h3 mo = some ((20, 0), .inr (11, mF ma cod tpd (nI n) fls cls9 ffl fcl nds sai ous (nI ((((b9 + 1) + 1) + 1) + 1)) (-1))) := by rw [← hh3]; exact z_put_eq
                          have f3_ma_1 : h3 (ma 1) = some ((22, 0), .inl (g.2.1 1, 4000, .inl f)) := by rw [← hh3]; exact z_keep f2_mo f2_ma_1 (z_t1 (by decide))
                          refine lv_iinc (v := 2) (lv' := [(4, .int 2), (3, .int ((16 * (0 + (zh (bt t n ((b9 + 1) + 1))))) + (zh (bt t n (((b9 + 1) + 1) + 1))))), (6, .int (zh (bt t n (((b9 + 1) + 1) + 1)))), (5, .int (bt t n (((b9 + 1) + 1) + 1))), (2, .int (bt t n (b9 + 1))), (0, .ref mo), (1, .int (nI b9))]) hx hb d_M_behind_162 hl (k := 3) rfl (by decide) (by decide) rfl (fun ls hl => ?_)
                          refine lv_goto (tgt := 62) hx hb d_M_behind_165 (by decide) ?_
                          refine lv_iload hx hb d_M_behind_62 (lv_at hl 0 rfl) ?_
                          refine lv_iconst (v := 2) hx hb d_M_behind_64 (by decide) ?_
                          refine lv_icmp_ge (tgt := 168) hx hb d_M_behind_65 (by decide) (fun c_65 => ?_) (fun c_65 => ?_)
                          · -- 65: True
                            refine lv_iload_n hx hb d_M_behind_168 rfl (lv_at hl 1 rfl) ?_
                            exact z_iret hx hb hr hlocks hw (by unfold escP; rw [show escR t n b9 = .inr (zh (bt t n (b9 + 2)) * 16 + zh (bt t n (b9 + 3)), b9 + 4) by unfold escR; rw [if_neg (fun z => z.elim c_33 (fun z => c_39 z)), if_neg (fun z => z c_47), if_neg zo0, if_neg zo1]]; refine ⟨congrArg some (congrArg Value.int ?_), by rw [← hh3, ← hh2, ← hh1, z_put_put, z_put_put]⟩; show _ = zh (bt t n (b9 + 2)) * 16 + zh (bt t n (b9 + 3)); rw [Int32.mul_comm _ 16]; congr 1; congr 1; exact Int32.zero_add _) (by decide) (by decide) d_M_behind_169
                          · -- 65: False
                            exact absurd (by decide) c_65
                        · -- 121: False
                          have zn1 := c_121
                          refine lv_aload_n hx hb d_M_behind_124 rfl (lv_at hl 5 rfl) ?_
                          refine lv_iload hx hb d_M_behind_125 (lv_at hl 1 rfl) ?_
                          refine lv_iconst (v := (-1)) hx hb d_M_behind_127 (by decide) ?_
                          refine lv_icmp_ne (tgt := 138) hx hb d_M_behind_128 (by decide) (fun c_128 => ?_) (fun c_128 => ?_)
                          · -- 128: True
                            refine lv_iload_n hx hb d_M_behind_138 rfl (lv_at hl 6 rfl) ?_
                            refine z_callV (n := 1) (As := [.int (nI b9)]) (rest := []) ⟨hx, hb, hml, hown, hts⟩ (m_fail l g h2 f2_mo) (z_in k_914 rfl) (z_in k_7 rfl) (z_in k_911 rfl) (z_in k_913 rfl) (z_in ks_32 rfl) (by decide +kernel) ⟨by first | exact Nat.le_of_ble_eq_true rfl | (dsimp only; omega) | omega, by first | exact Nat.le_of_ble_eq_true rfl | (dsimp only; omega) | omega⟩ hK hE hw hA rfl f2_mo rfl hl.1 (Nat.le_of_ble_eq_true rfl) d_M_behind_139 ⟨by first | exact Nat.le_of_ble_eq_true rfl | (dsimp only; omega) | omega, by first | exact Nat.le_of_ble_eq_true rfl | (dsimp only; omega) | omega⟩ rfl (fun r9 h9 H locs hp hw => ?_)
                            obtain ⟨r8, hh4⟩ := hp
                            subst r8
                            obtain ⟨h4, e8⟩ : ∃ x9, x9 = h9 := ⟨_, rfl⟩
                            subst e8
                            have f4_mo : h4 mo = some ((20, 0), .inr (11, mF ma cod tpd (nI n) fls cls9 ffl fcl nds sai ous (nI (((b9 + 1) + 1) + 1)) (nI b9))) := by rw [← hh4]; exact z_put_eq
                            have f4_ma_1 : h4 (ma 1) = some ((22, 0), .inl (g.2.1 1, 4000, .inl f)) := by rw [← hh4]; exact z_keep f2_mo f2_ma_1 (z_t1 (by decide))
                            refine W.eq (g2 := F0 m 142 ls []) rfl ?_
                            refine lv_iconst (v := 0) hx hb d_M_behind_142 (by decide) ?_
                            exact z_iret hx hb hr hlocks hw (by unfold escP; rw [show escR t n b9 = .inl (b9) by unfold escR; rw [if_neg (fun z => z.elim c_33 (fun z => c_39 z)), if_neg (fun z => z c_47), if_neg zo0, if_pos (show zh (bt t n (b9 + 3)) = -1 by simpa using zn1), if_neg c_128]]; exact ⟨((b9 + 1) + 1) + 1, by omega, by omega, rfl, by rw [← hh4, ← hh2, ← hh1, z_put_put, z_put_put]⟩) (by decide) (by decide) d_M_behind_143
                          · -- 128: False
                            refine lv_aload_n hx hb d_M_behind_131 rfl (lv_at hl 5 rfl) ?_
                            refine z_get hx hb hts (z_lay i_M) hown hK hw f2_mo rfl 4 (by decide) (z_in k_775 rfl) (fun _ h9 => h9) rfl d_M_behind_132 ?_
                            refine lv_goto (tgt := 139) hx hb d_M_behind_135 (by decide) ?_
                            refine z_callV (n := 1) (As := [.int (nI n)]) (rest := []) ⟨hx, hb, hml, hown, hts⟩ (m_fail l g h2 f2_mo) (z_in k_914 rfl) (z_in k_7 rfl) (z_in k_911 rfl) (z_in k_913 rfl) (z_in ks_32 rfl) (by decide +kernel) ⟨by first | exact Nat.le_of_ble_eq_true rfl | (dsimp only; omega) | omega, by first | exact Nat.le_of_ble_eq_true rfl | (dsimp only; omega) | omega⟩ hK hE hw hA rfl f2_mo rfl hl.1 (Nat.le_of_ble_eq_true rfl) d_M_behind_139 ⟨by first | exact Nat.le_of_ble_eq_true rfl | (dsimp only; omega) | omega, by first | exact Nat.le_of_ble_eq_true rfl | (dsimp only; omega) | omega⟩ rfl (fun r9 h9 H locs hp hw => ?_)
                            obtain ⟨r8, hh5⟩ := hp
                            subst r8
                            obtain ⟨h5, e8⟩ : ∃ x9, x9 = h9 := ⟨_, rfl⟩
                            subst e8
                            have f5_mo : h5 mo = some ((20, 0), .inr (11, mF ma cod tpd (nI n) fls cls9 ffl fcl nds sai ous (nI (((b9 + 1) + 1) + 1)) (nI n))) := by rw [← hh5]; exact z_put_eq
                            have f5_ma_1 : h5 (ma 1) = some ((22, 0), .inl (g.2.1 1, 4000, .inl f)) := by rw [← hh5]; exact z_keep f2_mo f2_ma_1 (z_t1 (by decide))
                            refine W.eq (g2 := F0 m 142 ls []) rfl ?_
                            refine lv_iconst (v := 0) hx hb d_M_behind_142 (by decide) ?_
                            exact z_iret hx hb hr hlocks hw (by unfold escP; rw [show escR t n b9 = .inl (n) by unfold escR; rw [if_neg (fun z => z.elim c_33 (fun z => c_39 z)), if_neg (fun z => z c_47), if_neg zo0, if_pos (show zh (bt t n (b9 + 3)) = -1 by simpa using zn1), if_pos (by simpa using c_128)]]; exact ⟨((b9 + 1) + 1) + 1, by omega, by omega, rfl, by rw [← hh5, ← hh2, ← hh1, z_put_put, z_put_put]⟩) (by decide) (by decide) d_M_behind_143
                      · -- 94: False
                        refine lv_iload hx hb d_M_behind_97 (lv_at hl 0 rfl) ?_
                        refine lv_bipush (v := 102) hx hb d_M_behind_99 (by decide) ?_
                        refine lv_icmp_gt (tgt := 115) hx hb d_M_behind_101 (by decide) (fun c_101 => ?_) (fun c_101 => ?_)
                        · -- 101: True
                          refine lv_iconst (v := (-1)) hx hb d_M_behind_115 (by decide) ?_
                          refine z_topi (y := zh (bt t n (((b9 + 1) + 1) + 1))) (by unfold zh; rw [if_neg (by rw [c_79]; decide), if_neg (fun z => absurd z.2 (Int32.not_le.mpr c_101))]) ?_
                          refine lv_istore (lv' := [(6, .int (zh (bt t n (((b9 + 1) + 1) + 1)))), (5, .int (bt t n (((b9 + 1) + 1) + 1))), (4, .int 1), (3, .int (0 + (zh (bt t n ((b9 + 1) + 1))))), (2, .int (bt t n (b9 + 1))), (0, .ref mo), (1, .int (nI b9))]) hx hb d_M_behind_116 hl (by decide) rfl (fun ls hl => ?_)
                          refine lv_iload hx hb d_M_behind_118 (lv_at hl 0 rfl) ?_
                          refine lv_iconst (v := (-1)) hx hb d_M_behind_120 (by decide) ?_
                          refine lv_icmp_ne (tgt := 144) hx hb d_M_behind_121 (by decide) (fun c_121 => ?_) (fun c_121 => ?_)
                          · -- 121: True
                            have zo1 : ¬ zh (bt t n (((b9 + 1) + 1) + 1)) = -1 := c_121
                            have zl1 := (zh_bt (fun k hk => (hf k hk).1) zo1).1
                            refine lv_bipush (v := 16) hx hb d_M_behind_144 (by decide) ?_
                            refine lv_iload_n hx hb d_M_behind_146 rfl (lv_at hl 3 rfl) ?_
                            refine lv_imul hx hb d_M_behind_147 ?_
                            refine lv_iload hx hb d_M_behind_148 (lv_at hl 0 rfl) ?_
                            refine lv_iadd hx hb d_M_behind_150 ?_
                            refine lv_istore_n (lv' := [(3, .int ((16 * (0 + (zh (bt t n ((b9 + 1) + 1))))) + (zh (bt t n (((b9 + 1) + 1) + 1))))), (6, .int (zh (bt t n (((b9 + 1) + 1) + 1)))), (5, .int (bt t n (((b9 + 1) + 1) + 1))), (4, .int 1), (2, .int (bt t n (b9 + 1))), (0, .ref mo), (1, .int (nI b9))]) hx hb d_M_behind_151 rfl hl (by decide) rfl (fun ls hl => ?_)
                            refine lv_aload_n hx hb d_M_behind_152 rfl (lv_at hl 5 rfl) ?_
                            refine lv_dup hx hb d_M_behind_153 rfl ?_
                            refine z_get hx hb hts (z_lay i_M) hown hK hw f2_mo rfl 29 (by decide) (z_in k_800 rfl) (fun _ h9 => h9) rfl d_M_behind_154 ?_
                            refine lv_iconst (v := 1) hx hb d_M_behind_157 (by decide) ?_
                            refine lv_iadd hx hb d_M_behind_158 ?_
                            refine z_topi (y := nI ((((b9 + 1) + 1) + 1) + 1)) (nI_add (((b9 + 1) + 1) + 1) 1) ?_
                            refine z_putf (ty := .int) hx hb hts (z_lay i_M) t_M t_M_ok n_M hown hK hw f2_mo rfl 29 (by decide) (z_in k_800 rfl) (fun _ h9 => h9) rfl (by decide +kernel) rfl rfl (Nat.le_of_ble_eq_true rfl) d_M_behind_159 (fun H locs hw => ?_)
                            obtain ⟨h6, hh6⟩ : ∃ x9, z_put h2 mo (20, 0) (.inr (11, mF ma cod tpd (nI n) fls cls9 ffl fcl nds sai ous (nI ((((b9 + 1) + 1) + 1) + 1)) (-1))) = x9 := ⟨_, rfl⟩
                            have hw : z_S g A s.heap h6 H locs := by rw [← hh6]; exact hw
                            have f6_mo : h6 mo = some ((20, 0), .inr (11, mF ma cod tpd (nI n) fls cls9 ffl fcl nds sai ous (nI ((((b9 + 1) + 1) + 1) + 1)) (-1))) := by rw [← hh6]; exact z_put_eq
                            have f6_ma_1 : h6 (ma 1) = some ((22, 0), .inl (g.2.1 1, 4000, .inl f)) := by rw [← hh6]; exact z_keep f2_mo f2_ma_1 (z_t1 (by decide))
                            refine lv_iinc (v := 2) (lv' := [(4, .int 2), (3, .int ((16 * (0 + (zh (bt t n ((b9 + 1) + 1))))) + (zh (bt t n (((b9 + 1) + 1) + 1))))), (6, .int (zh (bt t n (((b9 + 1) + 1) + 1)))), (5, .int (bt t n (((b9 + 1) + 1) + 1))), (2, .int (bt t n (b9 + 1))), (0, .ref mo), (1, .int (nI b9))]) hx hb d_M_behind_162 hl (k := 3) rfl (by decide) (by decide) rfl (fun ls hl => ?_)
                            refine lv_goto (tgt := 62) hx hb d_M_behind_165 (by decide) ?_
                            refine lv_iload hx hb d_M_behind_62 (lv_at hl 0 rfl) ?_
                            refine lv_iconst (v := 2) hx hb d_M_behind_64 (by decide) ?_
                            refine lv_icmp_ge (tgt := 168) hx hb d_M_behind_65 (by decide) (fun c_65 => ?_) (fun c_65 => ?_)
                            · -- 65: True
                              refine lv_iload_n hx hb d_M_behind_168 rfl (lv_at hl 1 rfl) ?_
                              exact z_iret hx hb hr hlocks hw (by unfold escP; rw [show escR t n b9 = .inr (zh (bt t n (b9 + 2)) * 16 + zh (bt t n (b9 + 3)), b9 + 4) by unfold escR; rw [if_neg (fun z => z.elim c_33 (fun z => c_39 z)), if_neg (fun z => z c_47), if_neg zo0, if_neg zo1]]; refine ⟨congrArg some (congrArg Value.int ?_), by rw [← hh6, ← hh2, ← hh1, z_put_put, z_put_put]⟩; show _ = zh (bt t n (b9 + 2)) * 16 + zh (bt t n (b9 + 3)); rw [Int32.mul_comm _ 16]; congr 1; congr 1; exact Int32.zero_add _) (by decide) (by decide) d_M_behind_169
                            · -- 65: False
                              exact absurd (by decide) c_65
                          · -- 121: False
                            have zn1 := c_121
                            refine lv_aload_n hx hb d_M_behind_124 rfl (lv_at hl 5 rfl) ?_
                            refine lv_iload hx hb d_M_behind_125 (lv_at hl 1 rfl) ?_
                            refine lv_iconst (v := (-1)) hx hb d_M_behind_127 (by decide) ?_
                            refine lv_icmp_ne (tgt := 138) hx hb d_M_behind_128 (by decide) (fun c_128 => ?_) (fun c_128 => ?_)
                            · -- 128: True
                              refine lv_iload_n hx hb d_M_behind_138 rfl (lv_at hl 6 rfl) ?_
                              refine z_callV (n := 1) (As := [.int (nI b9)]) (rest := []) ⟨hx, hb, hml, hown, hts⟩ (m_fail l g h2 f2_mo) (z_in k_914 rfl) (z_in k_7 rfl) (z_in k_911 rfl) (z_in k_913 rfl) (z_in ks_32 rfl) (by decide +kernel) ⟨by first | exact Nat.le_of_ble_eq_true rfl | (dsimp only; omega) | omega, by first | exact Nat.le_of_ble_eq_true rfl | (dsimp only; omega) | omega⟩ hK hE hw hA rfl f2_mo rfl hl.1 (Nat.le_of_ble_eq_true rfl) d_M_behind_139 ⟨by first | exact Nat.le_of_ble_eq_true rfl | (dsimp only; omega) | omega, by first | exact Nat.le_of_ble_eq_true rfl | (dsimp only; omega) | omega⟩ rfl (fun r9 h9 H locs hp hw => ?_)
                              obtain ⟨r8, hh7⟩ := hp
                              subst r8
                              obtain ⟨h7, e8⟩ : ∃ x9, x9 = h9 := ⟨_, rfl⟩
                              subst e8
                              have f7_mo : h7 mo = some ((20, 0), .inr (11, mF ma cod tpd (nI n) fls cls9 ffl fcl nds sai ous (nI (((b9 + 1) + 1) + 1)) (nI b9))) := by rw [← hh7]; exact z_put_eq
                              have f7_ma_1 : h7 (ma 1) = some ((22, 0), .inl (g.2.1 1, 4000, .inl f)) := by rw [← hh7]; exact z_keep f2_mo f2_ma_1 (z_t1 (by decide))
                              refine W.eq (g2 := F0 m 142 ls []) rfl ?_
                              refine lv_iconst (v := 0) hx hb d_M_behind_142 (by decide) ?_
                              exact z_iret hx hb hr hlocks hw (by unfold escP; rw [show escR t n b9 = .inl (b9) by unfold escR; rw [if_neg (fun z => z.elim c_33 (fun z => c_39 z)), if_neg (fun z => z c_47), if_neg zo0, if_pos (show zh (bt t n (b9 + 3)) = -1 by simpa using zn1), if_neg c_128]]; exact ⟨((b9 + 1) + 1) + 1, by omega, by omega, rfl, by rw [← hh7, ← hh2, ← hh1, z_put_put, z_put_put]⟩) (by decide) (by decide) d_M_behind_143
                            · -- 128: False
                              refine lv_aload_n hx hb d_M_behind_131 rfl (lv_at hl 5 rfl) ?_
                              refine z_get hx hb hts (z_lay i_M) hown hK hw f2_mo rfl 4 (by decide) (z_in k_775 rfl) (fun _ h9 => h9) rfl d_M_behind_132 ?_
                              refine lv_goto (tgt := 139) hx hb d_M_behind_135 (by decide) ?_
                              refine z_callV (n := 1) (As := [.int (nI n)]) (rest := []) ⟨hx, hb, hml, hown, hts⟩ (m_fail l g h2 f2_mo) (z_in k_914 rfl) (z_in k_7 rfl) (z_in k_911 rfl) (z_in k_913 rfl) (z_in ks_32 rfl) (by decide +kernel) ⟨by first | exact Nat.le_of_ble_eq_true rfl | (dsimp only; omega) | omega, by first | exact Nat.le_of_ble_eq_true rfl | (dsimp only; omega) | omega⟩ hK hE hw hA rfl f2_mo rfl hl.1 (Nat.le_of_ble_eq_true rfl) d_M_behind_139 ⟨by first | exact Nat.le_of_ble_eq_true rfl | (dsimp only; omega) | omega, by first | exact Nat.le_of_ble_eq_true rfl | (dsimp only; omega) | omega⟩ rfl (fun r9 h9 H locs hp hw => ?_)
                              obtain ⟨r8, hh8⟩ := hp
                              subst r8
                              obtain ⟨h8, e8⟩ : ∃ x9, x9 = h9 := ⟨_, rfl⟩
                              subst e8
                              have f8_mo : h8 mo = some ((20, 0), .inr (11, mF ma cod tpd (nI n) fls cls9 ffl fcl nds sai ous (nI (((b9 + 1) + 1) + 1)) (nI n))) := by rw [← hh8]; exact z_put_eq
                              have f8_ma_1 : h8 (ma 1) = some ((22, 0), .inl (g.2.1 1, 4000, .inl f)) := by rw [← hh8]; exact z_keep f2_mo f2_ma_1 (z_t1 (by decide))
                              refine W.eq (g2 := F0 m 142 ls []) rfl ?_
                              refine lv_iconst (v := 0) hx hb d_M_behind_142 (by decide) ?_
                              exact z_iret hx hb hr hlocks hw (by unfold escP; rw [show escR t n b9 = .inl (n) by unfold escR; rw [if_neg (fun z => z.elim c_33 (fun z => c_39 z)), if_neg (fun z => z c_47), if_neg zo0, if_pos (show zh (bt t n (b9 + 3)) = -1 by simpa using zn1), if_pos (by simpa using c_128)]]; exact ⟨((b9 + 1) + 1) + 1, by omega, by omega, rfl, by rw [← hh8, ← hh2, ← hh1, z_put_put, z_put_put]⟩) (by decide) (by decide) d_M_behind_143
                        · -- 101: False
                          refine lv_iload hx hb d_M_behind_104 (lv_at hl 0 rfl) ?_
                          refine lv_bipush (v := 97) hx hb d_M_behind_106 (by decide) ?_
                          refine lv_isub hx hb d_M_behind_108 ?_
                          refine lv_bipush (v := 10) hx hb d_M_behind_109 (by decide) ?_
                          refine lv_iadd hx hb d_M_behind_111 ?_
                          refine lv_goto (tgt := 116) hx hb d_M_behind_112 (by decide) ?_
                          refine z_topi (y := zh (bt t n (((b9 + 1) + 1) + 1))) (by unfold zh; rw [if_neg (by rw [c_79]; decide), if_pos ⟨Int32.not_lt.mp c_94, Int32.not_lt.mp c_101⟩]) ?_
                          refine lv_istore (lv' := [(6, .int (zh (bt t n (((b9 + 1) + 1) + 1)))), (5, .int (bt t n (((b9 + 1) + 1) + 1))), (4, .int 1), (3, .int (0 + (zh (bt t n ((b9 + 1) + 1))))), (2, .int (bt t n (b9 + 1))), (0, .ref mo), (1, .int (nI b9))]) hx hb d_M_behind_116 hl (by decide) rfl (fun ls hl => ?_)
                          refine lv_iload hx hb d_M_behind_118 (lv_at hl 0 rfl) ?_
                          refine lv_iconst (v := (-1)) hx hb d_M_behind_120 (by decide) ?_
                          refine lv_icmp_ne (tgt := 144) hx hb d_M_behind_121 (by decide) (fun c_121 => ?_) (fun c_121 => ?_)
                          · -- 121: True
                            have zo1 : ¬ zh (bt t n (((b9 + 1) + 1) + 1)) = -1 := c_121
                            have zl1 := (zh_bt (fun k hk => (hf k hk).1) zo1).1
                            refine lv_bipush (v := 16) hx hb d_M_behind_144 (by decide) ?_
                            refine lv_iload_n hx hb d_M_behind_146 rfl (lv_at hl 3 rfl) ?_
                            refine lv_imul hx hb d_M_behind_147 ?_
                            refine lv_iload hx hb d_M_behind_148 (lv_at hl 0 rfl) ?_
                            refine lv_iadd hx hb d_M_behind_150 ?_
                            refine lv_istore_n (lv' := [(3, .int ((16 * (0 + (zh (bt t n ((b9 + 1) + 1))))) + (zh (bt t n (((b9 + 1) + 1) + 1))))), (6, .int (zh (bt t n (((b9 + 1) + 1) + 1)))), (5, .int (bt t n (((b9 + 1) + 1) + 1))), (4, .int 1), (2, .int (bt t n (b9 + 1))), (0, .ref mo), (1, .int (nI b9))]) hx hb d_M_behind_151 rfl hl (by decide) rfl (fun ls hl => ?_)
                            refine lv_aload_n hx hb d_M_behind_152 rfl (lv_at hl 5 rfl) ?_
                            refine lv_dup hx hb d_M_behind_153 rfl ?_
                            refine z_get hx hb hts (z_lay i_M) hown hK hw f2_mo rfl 29 (by decide) (z_in k_800 rfl) (fun _ h9 => h9) rfl d_M_behind_154 ?_
                            refine lv_iconst (v := 1) hx hb d_M_behind_157 (by decide) ?_
                            refine lv_iadd hx hb d_M_behind_158 ?_
                            refine z_topi (y := nI ((((b9 + 1) + 1) + 1) + 1)) (nI_add (((b9 + 1) + 1) + 1) 1) ?_
                            refine z_putf (ty := .int) hx hb hts (z_lay i_M) t_M t_M_ok n_M hown hK hw f2_mo rfl 29 (by decide) (z_in k_800 rfl) (fun _ h9 => h9) rfl (by decide +kernel) rfl rfl (Nat.le_of_ble_eq_true rfl) d_M_behind_159 (fun H locs hw => ?_)
                            obtain ⟨h9, hh9⟩ : ∃ x9, z_put h2 mo (20, 0) (.inr (11, mF ma cod tpd (nI n) fls cls9 ffl fcl nds sai ous (nI ((((b9 + 1) + 1) + 1) + 1)) (-1))) = x9 := ⟨_, rfl⟩
                            have hw : z_S g A s.heap h9 H locs := by rw [← hh9]; exact hw
                            have f9_mo : h9 mo = some ((20, 0), .inr (11, mF ma cod tpd (nI n) fls cls9 ffl fcl nds sai ous (nI ((((b9 + 1) + 1) + 1) + 1)) (-1))) := by rw [← hh9]; exact z_put_eq
                            have f9_ma_1 : h9 (ma 1) = some ((22, 0), .inl (g.2.1 1, 4000, .inl f)) := by rw [← hh9]; exact z_keep f2_mo f2_ma_1 (z_t1 (by decide))
                            refine lv_iinc (v := 2) (lv' := [(4, .int 2), (3, .int ((16 * (0 + (zh (bt t n ((b9 + 1) + 1))))) + (zh (bt t n (((b9 + 1) + 1) + 1))))), (6, .int (zh (bt t n (((b9 + 1) + 1) + 1)))), (5, .int (bt t n (((b9 + 1) + 1) + 1))), (2, .int (bt t n (b9 + 1))), (0, .ref mo), (1, .int (nI b9))]) hx hb d_M_behind_162 hl (k := 3) rfl (by decide) (by decide) rfl (fun ls hl => ?_)
                            refine lv_goto (tgt := 62) hx hb d_M_behind_165 (by decide) ?_
                            refine lv_iload hx hb d_M_behind_62 (lv_at hl 0 rfl) ?_
                            refine lv_iconst (v := 2) hx hb d_M_behind_64 (by decide) ?_
                            refine lv_icmp_ge (tgt := 168) hx hb d_M_behind_65 (by decide) (fun c_65 => ?_) (fun c_65 => ?_)
                            · -- 65: True
                              refine lv_iload_n hx hb d_M_behind_168 rfl (lv_at hl 1 rfl) ?_
                              exact z_iret hx hb hr hlocks hw (by unfold escP; rw [show escR t n b9 = .inr (zh (bt t n (b9 + 2)) * 16 + zh (bt t n (b9 + 3)), b9 + 4) by unfold escR; rw [if_neg (fun z => z.elim c_33 (fun z => c_39 z)), if_neg (fun z => z c_47), if_neg zo0, if_neg zo1]]; refine ⟨congrArg some (congrArg Value.int ?_), by rw [← hh9, ← hh2, ← hh1, z_put_put, z_put_put]⟩; show _ = zh (bt t n (b9 + 2)) * 16 + zh (bt t n (b9 + 3)); rw [Int32.mul_comm _ 16]; congr 1; congr 1; exact Int32.zero_add _) (by decide) (by decide) d_M_behind_169
                            · -- 65: False
                              exact absurd (by decide) c_65
                          · -- 121: False
                            have zn1 := c_121
                            refine lv_aload_n hx hb d_M_behind_124 rfl (lv_at hl 5 rfl) ?_
                            refine lv_iload hx hb d_M_behind_125 (lv_at hl 1 rfl) ?_
                            refine lv_iconst (v := (-1)) hx hb d_M_behind_127 (by decide) ?_
                            refine lv_icmp_ne (tgt := 138) hx hb d_M_behind_128 (by decide) (fun c_128 => ?_) (fun c_128 => ?_)
                            · -- 128: True
                              refine lv_iload_n hx hb d_M_behind_138 rfl (lv_at hl 6 rfl) ?_
                              refine z_callV (n := 1) (As := [.int (nI b9)]) (rest := []) ⟨hx, hb, hml, hown, hts⟩ (m_fail l g h2 f2_mo) (z_in k_914 rfl) (z_in k_7 rfl) (z_in k_911 rfl) (z_in k_913 rfl) (z_in ks_32 rfl) (by decide +kernel) ⟨by first | exact Nat.le_of_ble_eq_true rfl | (dsimp only; omega) | omega, by first | exact Nat.le_of_ble_eq_true rfl | (dsimp only; omega) | omega⟩ hK hE hw hA rfl f2_mo rfl hl.1 (Nat.le_of_ble_eq_true rfl) d_M_behind_139 ⟨by first | exact Nat.le_of_ble_eq_true rfl | (dsimp only; omega) | omega, by first | exact Nat.le_of_ble_eq_true rfl | (dsimp only; omega) | omega⟩ rfl (fun r9 h9 H locs hp hw => ?_)
                              obtain ⟨r8, hh10⟩ := hp
                              subst r8
                              obtain ⟨h10, e8⟩ : ∃ x9, x9 = h9 := ⟨_, rfl⟩
                              subst e8
                              have f10_mo : h10 mo = some ((20, 0), .inr (11, mF ma cod tpd (nI n) fls cls9 ffl fcl nds sai ous (nI (((b9 + 1) + 1) + 1)) (nI b9))) := by rw [← hh10]; exact z_put_eq
                              have f10_ma_1 : h10 (ma 1) = some ((22, 0), .inl (g.2.1 1, 4000, .inl f)) := by rw [← hh10]; exact z_keep f2_mo f2_ma_1 (z_t1 (by decide))
                              refine W.eq (g2 := F0 m 142 ls []) rfl ?_
                              refine lv_iconst (v := 0) hx hb d_M_behind_142 (by decide) ?_
                              exact z_iret hx hb hr hlocks hw (by unfold escP; rw [show escR t n b9 = .inl (b9) by unfold escR; rw [if_neg (fun z => z.elim c_33 (fun z => c_39 z)), if_neg (fun z => z c_47), if_neg zo0, if_pos (show zh (bt t n (b9 + 3)) = -1 by simpa using zn1), if_neg c_128]]; exact ⟨((b9 + 1) + 1) + 1, by omega, by omega, rfl, by rw [← hh10, ← hh2, ← hh1, z_put_put, z_put_put]⟩) (by decide) (by decide) d_M_behind_143
                            · -- 128: False
                              refine lv_aload_n hx hb d_M_behind_131 rfl (lv_at hl 5 rfl) ?_
                              refine z_get hx hb hts (z_lay i_M) hown hK hw f2_mo rfl 4 (by decide) (z_in k_775 rfl) (fun _ h9 => h9) rfl d_M_behind_132 ?_
                              refine lv_goto (tgt := 139) hx hb d_M_behind_135 (by decide) ?_
                              refine z_callV (n := 1) (As := [.int (nI n)]) (rest := []) ⟨hx, hb, hml, hown, hts⟩ (m_fail l g h2 f2_mo) (z_in k_914 rfl) (z_in k_7 rfl) (z_in k_911 rfl) (z_in k_913 rfl) (z_in ks_32 rfl) (by decide +kernel) ⟨by first | exact Nat.le_of_ble_eq_true rfl | (dsimp only; omega) | omega, by first | exact Nat.le_of_ble_eq_true rfl | (dsimp only; omega) | omega⟩ hK hE hw hA rfl f2_mo rfl hl.1 (Nat.le_of_ble_eq_true rfl) d_M_behind_139 ⟨by first | exact Nat.le_of_ble_eq_true rfl | (dsimp only; omega) | omega, by first | exact Nat.le_of_ble_eq_true rfl | (dsimp only; omega) | omega⟩ rfl (fun r9 h9 H locs hp hw => ?_)
                              obtain ⟨r8, hh11⟩ := hp
                              subst r8
                              obtain ⟨h11, e8⟩ : ∃ x9, x9 = h9 := ⟨_, rfl⟩
                              subst e8
                              have f11_mo : h11 mo = some ((20, 0), .inr (11, mF ma cod tpd (nI n) fls cls9 ffl fcl nds sai ous (nI (((b9 + 1) + 1) + 1)) (nI n))) := by rw [← hh11]; exact z_put_eq
                              have f11_ma_1 : h11 (ma 1) = some ((22, 0), .inl (g.2.1 1, 4000, .inl f)) := by rw [← hh11]; exact z_keep f2_mo f2_ma_1 (z_t1 (by decide))
                              refine W.eq (g2 := F0 m 142 ls []) rfl ?_
                              refine lv_iconst (v := 0) hx hb d_M_behind_142 (by decide) ?_
                              exact z_iret hx hb hr hlocks hw (by unfold escP; rw [show escR t n b9 = .inl (n) by unfold escR; rw [if_neg (fun z => z.elim c_33 (fun z => c_39 z)), if_neg (fun z => z c_47), if_neg zo0, if_pos (show zh (bt t n (b9 + 3)) = -1 by simpa using zn1), if_pos (by simpa using c_128)]]; exact ⟨((b9 + 1) + 1) + 1, by omega, by omega, rfl, by rw [← hh11, ← hh2, ← hh1, z_put_put, z_put_put]⟩) (by decide) (by decide) d_M_behind_143
                    · -- 79: False
                      have c_79 : (isDig (bt t n (((b9 + 1) + 1) + 1))) = true := zb_t c_79
                      refine lv_iload hx hb d_M_behind_82 (lv_at hl 0 rfl) ?_
                      refine lv_bipush (v := 48) hx hb d_M_behind_84 (by decide) ?_
                      refine lv_isub hx hb d_M_behind_86 ?_
                      refine lv_goto (tgt := 116) hx hb d_M_behind_87 (by decide) ?_
                      refine z_topi (y := zh (bt t n (((b9 + 1) + 1) + 1))) (by unfold zh; rw [if_pos c_79]) ?_
                      refine lv_istore (lv' := [(6, .int (zh (bt t n (((b9 + 1) + 1) + 1)))), (5, .int (bt t n (((b9 + 1) + 1) + 1))), (4, .int 1), (3, .int (0 + (zh (bt t n ((b9 + 1) + 1))))), (2, .int (bt t n (b9 + 1))), (0, .ref mo), (1, .int (nI b9))]) hx hb d_M_behind_116 hl (by decide) rfl (fun ls hl => ?_)
                      refine lv_iload hx hb d_M_behind_118 (lv_at hl 0 rfl) ?_
                      refine lv_iconst (v := (-1)) hx hb d_M_behind_120 (by decide) ?_
                      refine lv_icmp_ne (tgt := 144) hx hb d_M_behind_121 (by decide) (fun c_121 => ?_) (fun c_121 => ?_)
                      · -- 121: True
                        have zo1 : ¬ zh (bt t n (((b9 + 1) + 1) + 1)) = -1 := c_121
                        have zl1 := (zh_bt (fun k hk => (hf k hk).1) zo1).1
                        refine lv_bipush (v := 16) hx hb d_M_behind_144 (by decide) ?_
                        refine lv_iload_n hx hb d_M_behind_146 rfl (lv_at hl 3 rfl) ?_
                        refine lv_imul hx hb d_M_behind_147 ?_
                        refine lv_iload hx hb d_M_behind_148 (lv_at hl 0 rfl) ?_
                        refine lv_iadd hx hb d_M_behind_150 ?_
                        refine lv_istore_n (lv' := [(3, .int ((16 * (0 + (zh (bt t n ((b9 + 1) + 1))))) + (zh (bt t n (((b9 + 1) + 1) + 1))))), (6, .int (zh (bt t n (((b9 + 1) + 1) + 1)))), (5, .int (bt t n (((b9 + 1) + 1) + 1))), (4, .int 1), (2, .int (bt t n (b9 + 1))), (0, .ref mo), (1, .int (nI b9))]) hx hb d_M_behind_151 rfl hl (by decide) rfl (fun ls hl => ?_)
                        refine lv_aload_n hx hb d_M_behind_152 rfl (lv_at hl 5 rfl) ?_
                        refine lv_dup hx hb d_M_behind_153 rfl ?_
                        refine z_get hx hb hts (z_lay i_M) hown hK hw f2_mo rfl 29 (by decide) (z_in k_800 rfl) (fun _ h9 => h9) rfl d_M_behind_154 ?_
                        refine lv_iconst (v := 1) hx hb d_M_behind_157 (by decide) ?_
                        refine lv_iadd hx hb d_M_behind_158 ?_
                        refine z_topi (y := nI ((((b9 + 1) + 1) + 1) + 1)) (nI_add (((b9 + 1) + 1) + 1) 1) ?_
                        refine z_putf (ty := .int) hx hb hts (z_lay i_M) t_M t_M_ok n_M hown hK hw f2_mo rfl 29 (by decide) (z_in k_800 rfl) (fun _ h9 => h9) rfl (by decide +kernel) rfl rfl (Nat.le_of_ble_eq_true rfl) d_M_behind_159 (fun H locs hw => ?_)
                        obtain ⟨h12, hh12⟩ : ∃ x9, z_put h2 mo (20, 0) (.inr (11, mF ma cod tpd (nI n) fls cls9 ffl fcl nds sai ous (nI ((((b9 + 1) + 1) + 1) + 1)) (-1))) = x9 := ⟨_, rfl⟩
                        have hw : z_S g A s.heap h12 H locs := by rw [← hh12]; exact hw
                        have f12_mo : h12 mo = some ((20, 0), .inr (11, mF ma cod tpd (nI n) fls cls9 ffl fcl nds sai ous (nI ((((b9 + 1) + 1) + 1) + 1)) (-1))) := by rw [← hh12]; exact z_put_eq
                        have f12_ma_1 : h12 (ma 1) = some ((22, 0), .inl (g.2.1 1, 4000, .inl f)) := by rw [← hh12]; exact z_keep f2_mo f2_ma_1 (z_t1 (by decide))
                        refine lv_iinc (v := 2) (lv' := [(4, .int 2), (3, .int ((16 * (0 + (zh (bt t n ((b9 + 1) + 1))))) + (zh (bt t n (((b9 + 1) + 1) + 1))))), (6, .int (zh (bt t n (((b9 + 1) + 1) + 1)))), (5, .int (bt t n (((b9 + 1) + 1) + 1))), (2, .int (bt t n (b9 + 1))), (0, .ref mo), (1, .int (nI b9))]) hx hb d_M_behind_162 hl (k := 3) rfl (by decide) (by decide) rfl (fun ls hl => ?_)
                        refine lv_goto (tgt := 62) hx hb d_M_behind_165 (by decide) ?_
                        refine lv_iload hx hb d_M_behind_62 (lv_at hl 0 rfl) ?_
                        refine lv_iconst (v := 2) hx hb d_M_behind_64 (by decide) ?_
                        refine lv_icmp_ge (tgt := 168) hx hb d_M_behind_65 (by decide) (fun c_65 => ?_) (fun c_65 => ?_)
                        · -- 65: True
                          refine lv_iload_n hx hb d_M_behind_168 rfl (lv_at hl 1 rfl) ?_
                          exact z_iret hx hb hr hlocks hw (by unfold escP; rw [show escR t n b9 = .inr (zh (bt t n (b9 + 2)) * 16 + zh (bt t n (b9 + 3)), b9 + 4) by unfold escR; rw [if_neg (fun z => z.elim c_33 (fun z => c_39 z)), if_neg (fun z => z c_47), if_neg zo0, if_neg zo1]]; refine ⟨congrArg some (congrArg Value.int ?_), by rw [← hh12, ← hh2, ← hh1, z_put_put, z_put_put]⟩; show _ = zh (bt t n (b9 + 2)) * 16 + zh (bt t n (b9 + 3)); rw [Int32.mul_comm _ 16]; congr 1; congr 1; exact Int32.zero_add _) (by decide) (by decide) d_M_behind_169
                        · -- 65: False
                          exact absurd (by decide) c_65
                      · -- 121: False
                        have zn1 := c_121
                        refine lv_aload_n hx hb d_M_behind_124 rfl (lv_at hl 5 rfl) ?_
                        refine lv_iload hx hb d_M_behind_125 (lv_at hl 1 rfl) ?_
                        refine lv_iconst (v := (-1)) hx hb d_M_behind_127 (by decide) ?_
                        refine lv_icmp_ne (tgt := 138) hx hb d_M_behind_128 (by decide) (fun c_128 => ?_) (fun c_128 => ?_)
                        · -- 128: True
                          refine lv_iload_n hx hb d_M_behind_138 rfl (lv_at hl 6 rfl) ?_
                          refine z_callV (n := 1) (As := [.int (nI b9)]) (rest := []) ⟨hx, hb, hml, hown, hts⟩ (m_fail l g h2 f2_mo) (z_in k_914 rfl) (z_in k_7 rfl) (z_in k_911 rfl) (z_in k_913 rfl) (z_in ks_32 rfl) (by decide +kernel) ⟨by first | exact Nat.le_of_ble_eq_true rfl | (dsimp only; omega) | omega, by first | exact Nat.le_of_ble_eq_true rfl | (dsimp only; omega) | omega⟩ hK hE hw hA rfl f2_mo rfl hl.1 (Nat.le_of_ble_eq_true rfl) d_M_behind_139 ⟨by first | exact Nat.le_of_ble_eq_true rfl | (dsimp only; omega) | omega, by first | exact Nat.le_of_ble_eq_true rfl | (dsimp only; omega) | omega⟩ rfl (fun r9 h9 H locs hp hw => ?_)
                          obtain ⟨r8, hh13⟩ := hp
                          subst r8
                          obtain ⟨h13, e8⟩ : ∃ x9, x9 = h9 := ⟨_, rfl⟩
                          subst e8
                          have f13_mo : h13 mo = some ((20, 0), .inr (11, mF ma cod tpd (nI n) fls cls9 ffl fcl nds sai ous (nI (((b9 + 1) + 1) + 1)) (nI b9))) := by rw [← hh13]; exact z_put_eq
                          have f13_ma_1 : h13 (ma 1) = some ((22, 0), .inl (g.2.1 1, 4000, .inl f)) := by rw [← hh13]; exact z_keep f2_mo f2_ma_1 (z_t1 (by decide))
                          refine W.eq (g2 := F0 m 142 ls []) rfl ?_
                          refine lv_iconst (v := 0) hx hb d_M_behind_142 (by decide) ?_
                          exact z_iret hx hb hr hlocks hw (by unfold escP; rw [show escR t n b9 = .inl (b9) by unfold escR; rw [if_neg (fun z => z.elim c_33 (fun z => c_39 z)), if_neg (fun z => z c_47), if_neg zo0, if_pos (show zh (bt t n (b9 + 3)) = -1 by simpa using zn1), if_neg c_128]]; exact ⟨((b9 + 1) + 1) + 1, by omega, by omega, rfl, by rw [← hh13, ← hh2, ← hh1, z_put_put, z_put_put]⟩) (by decide) (by decide) d_M_behind_143
                        · -- 128: False
                          refine lv_aload_n hx hb d_M_behind_131 rfl (lv_at hl 5 rfl) ?_
                          refine z_get hx hb hts (z_lay i_M) hown hK hw f2_mo rfl 4 (by decide) (z_in k_775 rfl) (fun _ h9 => h9) rfl d_M_behind_132 ?_
                          refine lv_goto (tgt := 139) hx hb d_M_behind_135 (by decide) ?_
                          refine z_callV (n := 1) (As := [.int (nI n)]) (rest := []) ⟨hx, hb, hml, hown, hts⟩ (m_fail l g h2 f2_mo) (z_in k_914 rfl) (z_in k_7 rfl) (z_in k_911 rfl) (z_in k_913 rfl) (z_in ks_32 rfl) (by decide +kernel) ⟨by first | exact Nat.le_of_ble_eq_true rfl | (dsimp only; omega) | omega, by first | exact Nat.le_of_ble_eq_true rfl | (dsimp only; omega) | omega⟩ hK hE hw hA rfl f2_mo rfl hl.1 (Nat.le_of_ble_eq_true rfl) d_M_behind_139 ⟨by first | exact Nat.le_of_ble_eq_true rfl | (dsimp only; omega) | omega, by first | exact Nat.le_of_ble_eq_true rfl | (dsimp only; omega) | omega⟩ rfl (fun r9 h9 H locs hp hw => ?_)
                          obtain ⟨r8, hh14⟩ := hp
                          subst r8
                          obtain ⟨h14, e8⟩ : ∃ x9, x9 = h9 := ⟨_, rfl⟩
                          subst e8
                          have f14_mo : h14 mo = some ((20, 0), .inr (11, mF ma cod tpd (nI n) fls cls9 ffl fcl nds sai ous (nI (((b9 + 1) + 1) + 1)) (nI n))) := by rw [← hh14]; exact z_put_eq
                          have f14_ma_1 : h14 (ma 1) = some ((22, 0), .inl (g.2.1 1, 4000, .inl f)) := by rw [← hh14]; exact z_keep f2_mo f2_ma_1 (z_t1 (by decide))
                          refine W.eq (g2 := F0 m 142 ls []) rfl ?_
                          refine lv_iconst (v := 0) hx hb d_M_behind_142 (by decide) ?_
                          exact z_iret hx hb hr hlocks hw (by unfold escP; rw [show escR t n b9 = .inl (n) by unfold escR; rw [if_neg (fun z => z.elim c_33 (fun z => c_39 z)), if_neg (fun z => z c_47), if_neg zo0, if_pos (show zh (bt t n (b9 + 3)) = -1 by simpa using zn1), if_pos (by simpa using c_128)]]; exact ⟨((b9 + 1) + 1) + 1, by omega, by omega, rfl, by rw [← hh14, ← hh2, ← hh1, z_put_put, z_put_put]⟩) (by decide) (by decide) d_M_behind_143
                · -- 121: False
                  have zn0 := c_121
                  refine lv_aload_n hx hb d_M_behind_124 rfl (lv_at hl 5 rfl) ?_
                  refine lv_iload hx hb d_M_behind_125 (lv_at hl 1 rfl) ?_
                  refine lv_iconst (v := (-1)) hx hb d_M_behind_127 (by decide) ?_
                  refine lv_icmp_ne (tgt := 138) hx hb d_M_behind_128 (by decide) (fun c_128 => ?_) (fun c_128 => ?_)
                  · -- 128: True
                    refine lv_iload_n hx hb d_M_behind_138 rfl (lv_at hl 6 rfl) ?_
                    refine z_callV (n := 1) (As := [.int (nI b9)]) (rest := []) ⟨hx, hb, hml, hown, hts⟩ (m_fail l g h1 f1_mo) (z_in k_914 rfl) (z_in k_7 rfl) (z_in k_911 rfl) (z_in k_913 rfl) (z_in ks_32 rfl) (by decide +kernel) ⟨by first | exact Nat.le_of_ble_eq_true rfl | (dsimp only; omega) | omega, by first | exact Nat.le_of_ble_eq_true rfl | (dsimp only; omega) | omega⟩ hK hE hw hA rfl f1_mo rfl hl.1 (Nat.le_of_ble_eq_true rfl) d_M_behind_139 ⟨by first | exact Nat.le_of_ble_eq_true rfl | (dsimp only; omega) | omega, by first | exact Nat.le_of_ble_eq_true rfl | (dsimp only; omega) | omega⟩ rfl (fun r9 h9 H locs hp hw => ?_)
                    obtain ⟨r8, hh15⟩ := hp
                    subst r8
                    obtain ⟨h15, e8⟩ : ∃ x9, x9 = h9 := ⟨_, rfl⟩
                    subst e8
                    have f15_mo : h15 mo = some ((20, 0), .inr (11, mF ma cod tpd (nI n) fls cls9 ffl fcl nds sai ous (nI ((b9 + 1) + 1)) (nI b9))) := by rw [← hh15]; exact z_put_eq
                    have f15_ma_1 : h15 (ma 1) = some ((22, 0), .inl (g.2.1 1, 4000, .inl f)) := by rw [← hh15]; exact z_keep f1_mo f1_ma_1 (z_t1 (by decide))
                    refine W.eq (g2 := F0 m 142 ls []) rfl ?_
                    refine lv_iconst (v := 0) hx hb d_M_behind_142 (by decide) ?_
                    exact z_iret hx hb hr hlocks hw (by unfold escP; rw [show escR t n b9 = .inl (b9) by unfold escR; rw [if_neg (fun z => z.elim c_33 (fun z => c_39 z)), if_neg (fun z => z c_47), if_pos (show zh (bt t n (b9 + 2)) = -1 by simpa using zn0), if_neg c_128]]; exact ⟨(b9 + 1) + 1, by omega, by omega, rfl, by rw [← hh15, ← hh1, z_put_put]⟩) (by decide) (by decide) d_M_behind_143
                  · -- 128: False
                    refine lv_aload_n hx hb d_M_behind_131 rfl (lv_at hl 5 rfl) ?_
                    refine z_get hx hb hts (z_lay i_M) hown hK hw f1_mo rfl 4 (by decide) (z_in k_775 rfl) (fun _ h9 => h9) rfl d_M_behind_132 ?_
                    refine lv_goto (tgt := 139) hx hb d_M_behind_135 (by decide) ?_
                    refine z_callV (n := 1) (As := [.int (nI n)]) (rest := []) ⟨hx, hb, hml, hown, hts⟩ (m_fail l g h1 f1_mo) (z_in k_914 rfl) (z_in k_7 rfl) (z_in k_911 rfl) (z_in k_913 rfl) (z_in ks_32 rfl) (by decide +kernel) ⟨by first | exact Nat.le_of_ble_eq_true rfl | (dsimp only; omega) | omega, by first | exact Nat.le_of_ble_eq_true rfl | (dsimp only; omega) | omega⟩ hK hE hw hA rfl f1_mo rfl hl.1 (Nat.le_of_ble_eq_true rfl) d_M_behind_139 ⟨by first | exact Nat.le_of_ble_eq_true rfl | (dsimp only; omega) | omega, by first | exact Nat.le_of_ble_eq_true rfl | (dsimp only; omega) | omega⟩ rfl (fun r9 h9 H locs hp hw => ?_)
                    obtain ⟨r8, hh16⟩ := hp
                    subst r8
                    obtain ⟨h16, e8⟩ : ∃ x9, x9 = h9 := ⟨_, rfl⟩
                    subst e8
                    have f16_mo : h16 mo = some ((20, 0), .inr (11, mF ma cod tpd (nI n) fls cls9 ffl fcl nds sai ous (nI ((b9 + 1) + 1)) (nI n))) := by rw [← hh16]; exact z_put_eq
                    have f16_ma_1 : h16 (ma 1) = some ((22, 0), .inl (g.2.1 1, 4000, .inl f)) := by rw [← hh16]; exact z_keep f1_mo f1_ma_1 (z_t1 (by decide))
                    refine W.eq (g2 := F0 m 142 ls []) rfl ?_
                    refine lv_iconst (v := 0) hx hb d_M_behind_142 (by decide) ?_
                    exact z_iret hx hb hr hlocks hw (by unfold escP; rw [show escR t n b9 = .inl (n) by unfold escR; rw [if_neg (fun z => z.elim c_33 (fun z => c_39 z)), if_neg (fun z => z c_47), if_pos (show zh (bt t n (b9 + 2)) = -1 by simpa using zn0), if_pos (by simpa using c_128)]]; exact ⟨(b9 + 1) + 1, by omega, by omega, rfl, by rw [← hh16, ← hh1, z_put_put]⟩) (by decide) (by decide) d_M_behind_143
              · -- 94: False
                refine lv_iload hx hb d_M_behind_97 (lv_at hl 0 rfl) ?_
                refine lv_bipush (v := 102) hx hb d_M_behind_99 (by decide) ?_
                refine lv_icmp_gt (tgt := 115) hx hb d_M_behind_101 (by decide) (fun c_101 => ?_) (fun c_101 => ?_)
                · -- 101: True
                  refine lv_iconst (v := (-1)) hx hb d_M_behind_115 (by decide) ?_
                  refine z_topi (y := zh (bt t n ((b9 + 1) + 1))) (by unfold zh; rw [if_neg (by rw [c_79]; decide), if_neg (fun z => absurd z.2 (Int32.not_le.mpr c_101))]) ?_
                  refine lv_istore (lv' := [(6, .int (zh (bt t n ((b9 + 1) + 1)))), (5, .int (bt t n ((b9 + 1) + 1))), (4, .int 0), (3, .int 0), (2, .int (bt t n (b9 + 1))), (0, .ref mo), (1, .int (nI b9))]) hx hb d_M_behind_116 hl (by decide) rfl (fun ls hl => ?_)
                  refine lv_iload hx hb d_M_behind_118 (lv_at hl 0 rfl) ?_
                  refine lv_iconst (v := (-1)) hx hb d_M_behind_120 (by decide) ?_
                  refine lv_icmp_ne (tgt := 144) hx hb d_M_behind_121 (by decide) (fun c_121 => ?_) (fun c_121 => ?_)
                  · -- 121: True
                    have zo0 : ¬ zh (bt t n ((b9 + 1) + 1)) = -1 := c_121
                    have zl0 := (zh_bt (fun k hk => (hf k hk).1) zo0).1
                    refine lv_bipush (v := 16) hx hb d_M_behind_144 (by decide) ?_
                    refine lv_iload_n hx hb d_M_behind_146 rfl (lv_at hl 3 rfl) ?_
                    refine lv_imul hx hb d_M_behind_147 ?_
                    refine z_topi (y := 0) (by decide) ?_
                    refine lv_iload hx hb d_M_behind_148 (lv_at hl 0 rfl) ?_
                    refine lv_iadd hx hb d_M_behind_150 ?_
                    refine lv_istore_n (lv' := [(3, .int (0 + (zh (bt t n ((b9 + 1) + 1))))), (6, .int (zh (bt t n ((b9 + 1) + 1)))), (5, .int (bt t n ((b9 + 1) + 1))), (4, .int 0), (2, .int (bt t n (b9 + 1))), (0, .ref mo), (1, .int (nI b9))]) hx hb d_M_behind_151 rfl hl (by decide) rfl (fun ls hl => ?_)
                    refine lv_aload_n hx hb d_M_behind_152 rfl (lv_at hl 5 rfl) ?_
                    refine lv_dup hx hb d_M_behind_153 rfl ?_
                    refine z_get hx hb hts (z_lay i_M) hown hK hw f1_mo rfl 29 (by decide) (z_in k_800 rfl) (fun _ h9 => h9) rfl d_M_behind_154 ?_
                    refine lv_iconst (v := 1) hx hb d_M_behind_157 (by decide) ?_
                    refine lv_iadd hx hb d_M_behind_158 ?_
                    refine z_topi (y := nI (((b9 + 1) + 1) + 1)) (nI_add ((b9 + 1) + 1) 1) ?_
                    refine z_putf (ty := .int) hx hb hts (z_lay i_M) t_M t_M_ok n_M hown hK hw f1_mo rfl 29 (by decide) (z_in k_800 rfl) (fun _ h9 => h9) rfl (by decide +kernel) rfl rfl (Nat.le_of_ble_eq_true rfl) d_M_behind_159 (fun H locs hw => ?_)
                    obtain ⟨h17, hh17⟩ : ∃ x9, z_put h1 mo (20, 0) (.inr (11, mF ma cod tpd (nI n) fls cls9 ffl fcl nds sai ous (nI (((b9 + 1) + 1) + 1)) (-1))) = x9 := ⟨_, rfl⟩
                    have hw : z_S g A s.heap h17 H locs := by rw [← hh17]; exact hw
                    have f17_mo : h17 mo = some ((20, 0), .inr (11, mF ma cod tpd (nI n) fls cls9 ffl fcl nds sai ous (nI (((b9 + 1) + 1) + 1)) (-1))) := by rw [← hh17]; exact z_put_eq
                    have f17_ma_1 : h17 (ma 1) = some ((22, 0), .inl (g.2.1 1, 4000, .inl f)) := by rw [← hh17]; exact z_keep f1_mo f1_ma_1 (z_t1 (by decide))
                    refine lv_iinc (v := 1) (lv' := [(4, .int 1), (3, .int (0 + (zh (bt t n ((b9 + 1) + 1))))), (6, .int (zh (bt t n ((b9 + 1) + 1)))), (5, .int (bt t n ((b9 + 1) + 1))), (2, .int (bt t n (b9 + 1))), (0, .ref mo), (1, .int (nI b9))]) hx hb d_M_behind_162 hl (k := 3) rfl (by decide) (by decide) rfl (fun ls hl => ?_)
                    refine lv_goto (tgt := 62) hx hb d_M_behind_165 (by decide) ?_
                    refine lv_iload hx hb d_M_behind_62 (lv_at hl 0 rfl) ?_
                    refine lv_iconst (v := 2) hx hb d_M_behind_64 (by decide) ?_
                    refine lv_icmp_ge (tgt := 168) hx hb d_M_behind_65 (by decide) (fun c_65 => ?_) (fun c_65 => ?_)
                    · -- 65: True
                      exact absurd c_65 (by decide)
                    · -- 65: False
                      refine lv_aload_n hx hb d_M_behind_68 rfl (lv_at hl 5 rfl) ?_
                      refine z_callV (n := 0) (As := []) (rest := []) ⟨hx, hb, hml, hown, hts⟩ (m_look (t := t) l g h17 f17_mo f17_ma_1 hn hf (by omega)) (z_in k_889 rfl) (z_in k_7 rfl) (z_in k_886 rfl) (z_in k_888 rfl) (z_in ks_28 rfl) (by decide +kernel) ⟨by first | exact Nat.le_of_ble_eq_true rfl | (dsimp only; omega) | omega, by first | exact Nat.le_of_ble_eq_true rfl | (dsimp only; omega) | omega⟩ hK hE hw hA rfl f17_mo rfl hl.1 (Nat.le_of_ble_eq_true rfl) d_M_behind_69 ⟨by first | exact Nat.le_of_ble_eq_true rfl | (dsimp only; omega) | omega, by first | exact Nat.le_of_ble_eq_true rfl | (dsimp only; omega) | omega⟩ rfl (fun r9 h9 H locs hp hw => ?_)
                      obtain ⟨r8, h8⟩ := hp
                      subst r8
                      subst h8
                      refine W.eq (g2 := F0 m 72 ls [.int (bt t n (((b9 + 1) + 1) + 1))]) rfl ?_
                      refine lv_istore (lv' := [(5, .int (bt t n (((b9 + 1) + 1) + 1))), (4, .int 1), (3, .int (0 + (zh (bt t n ((b9 + 1) + 1))))), (6, .int (zh (bt t n ((b9 + 1) + 1)))), (2, .int (bt t n (b9 + 1))), (0, .ref mo), (1, .int (nI b9))]) hx hb d_M_behind_72 hl (by decide) rfl (fun ls hl => ?_)
                      refine lv_iload hx hb d_M_behind_74 (lv_at hl 0 rfl) ?_
                      refine z_callS (n := 1) (As := [.int (bt t n (((b9 + 1) + 1) + 1))]) (rest := []) ⟨hx, hb, hml, hown, hts⟩ (m_isDigit l g h17) (z_in k_908 rfl) (z_in k_7 rfl) (z_in k_906 rfl) (z_in k_907 rfl) (by decide +kernel) ⟨by first | exact Nat.le_of_ble_eq_true rfl | (dsimp only; omega) | omega, by first | exact Nat.le_of_ble_eq_true rfl | (dsimp only; omega) | omega⟩ hK hE hw hA rfl hl.1 (Nat.le_of_ble_eq_true rfl) d_M_behind_76 ⟨by first | exact Nat.le_of_ble_eq_true rfl | (dsimp only; omega) | omega, by first | exact Nat.le_of_ble_eq_true rfl | (dsimp only; omega) | omega⟩ rfl (fun r9 h9 H locs hp hw => ?_)
                      obtain ⟨r8, h8⟩ := hp
                      subst r8
                      subst h8
                      refine W.eq (g2 := F0 m 79 ls [.int (zb (isDig (bt t n (((b9 + 1) + 1) + 1))))]) rfl ?_
                      refine lv_if_eq (tgt := 90) hx hb d_M_behind_79 (by decide) (fun c_79 => ?_) (fun c_79 => ?_)
                      · -- 79: True
                        have c_79 : (isDig (bt t n (((b9 + 1) + 1) + 1))) = false := zb_f c_79
                        refine lv_iload hx hb d_M_behind_90 (lv_at hl 0 rfl) ?_
                        refine lv_bipush (v := 97) hx hb d_M_behind_92 (by decide) ?_
                        refine lv_icmp_lt (tgt := 115) hx hb d_M_behind_94 (by decide) (fun c_94 => ?_) (fun c_94 => ?_)
                        · -- 94: True
                          refine lv_iconst (v := (-1)) hx hb d_M_behind_115 (by decide) ?_
                          refine z_topi (y := zh (bt t n (((b9 + 1) + 1) + 1))) (by unfold zh; rw [if_neg (by rw [c_79]; decide), if_neg (fun z => absurd z.1 (Int32.not_le.mpr c_94))]) ?_
                          refine lv_istore (lv' := [(6, .int (zh (bt t n (((b9 + 1) + 1) + 1)))), (5, .int (bt t n (((b9 + 1) + 1) + 1))), (4, .int 1), (3, .int (0 + (zh (bt t n ((b9 + 1) + 1))))), (2, .int (bt t n (b9 + 1))), (0, .ref mo), (1, .int (nI b9))]) hx hb d_M_behind_116 hl (by decide) rfl (fun ls hl => ?_)
                          refine lv_iload hx hb d_M_behind_118 (lv_at hl 0 rfl) ?_
                          refine lv_iconst (v := (-1)) hx hb d_M_behind_120 (by decide) ?_
                          refine lv_icmp_ne (tgt := 144) hx hb d_M_behind_121 (by decide) (fun c_121 => ?_) (fun c_121 => ?_)
                          · -- 121: True
                            have zo1 : ¬ zh (bt t n (((b9 + 1) + 1) + 1)) = -1 := c_121
                            have zl1 := (zh_bt (fun k hk => (hf k hk).1) zo1).1
                            refine lv_bipush (v := 16) hx hb d_M_behind_144 (by decide) ?_
                            refine lv_iload_n hx hb d_M_behind_146 rfl (lv_at hl 3 rfl) ?_
                            refine lv_imul hx hb d_M_behind_147 ?_
                            refine lv_iload hx hb d_M_behind_148 (lv_at hl 0 rfl) ?_
                            refine lv_iadd hx hb d_M_behind_150 ?_
                            refine lv_istore_n (lv' := [(3, .int ((16 * (0 + (zh (bt t n ((b9 + 1) + 1))))) + (zh (bt t n (((b9 + 1) + 1) + 1))))), (6, .int (zh (bt t n (((b9 + 1) + 1) + 1)))), (5, .int (bt t n (((b9 + 1) + 1) + 1))), (4, .int 1), (2, .int (bt t n (b9 + 1))), (0, .ref mo), (1, .int (nI b9))]) hx hb d_M_behind_151 rfl hl (by decide) rfl (fun ls hl => ?_)
                            refine lv_aload_n hx hb d_M_behind_152 rfl (lv_at hl 5 rfl) ?_
                            refine lv_dup hx hb d_M_behind_153 rfl ?_
                            refine z_get hx hb hts (z_lay i_M) hown hK hw f17_mo rfl 29 (by decide) (z_in k_800 rfl) (fun _ h9 => h9) rfl d_M_behind_154 ?_
                            refine lv_iconst (v := 1) hx hb d_M_behind_157 (by decide) ?_
                            refine lv_iadd hx hb d_M_behind_158 ?_
                            refine z_topi (y := nI ((((b9 + 1) + 1) + 1) + 1)) (nI_add (((b9 + 1) + 1) + 1) 1) ?_
                            refine z_putf (ty := .int) hx hb hts (z_lay i_M) t_M t_M_ok n_M hown hK hw f17_mo rfl 29 (by decide) (z_in k_800 rfl) (fun _ h9 => h9) rfl (by decide +kernel) rfl rfl (Nat.le_of_ble_eq_true rfl) d_M_behind_159 (fun H locs hw => ?_)
                            obtain ⟨h18, hh18⟩ : ∃ x9, z_put h17 mo (20, 0) (.inr (11, mF ma cod tpd (nI n) fls cls9 ffl fcl nds sai ous (nI ((((b9 + 1) + 1) + 1) + 1)) (-1))) = x9 := ⟨_, rfl⟩
                            have hw : z_S g A s.heap h18 H locs := by rw [← hh18]; exact hw
                            have f18_mo : h18 mo = some ((20, 0), .inr (11, mF ma cod tpd (nI n) fls cls9 ffl fcl nds sai ous (nI ((((b9 + 1) + 1) + 1) + 1)) (-1))) := by rw [← hh18]; exact z_put_eq
                            have f18_ma_1 : h18 (ma 1) = some ((22, 0), .inl (g.2.1 1, 4000, .inl f)) := by rw [← hh18]; exact z_keep f17_mo f17_ma_1 (z_t1 (by decide))
                            refine lv_iinc (v := 2) (lv' := [(4, .int 2), (3, .int ((16 * (0 + (zh (bt t n ((b9 + 1) + 1))))) + (zh (bt t n (((b9 + 1) + 1) + 1))))), (6, .int (zh (bt t n (((b9 + 1) + 1) + 1)))), (5, .int (bt t n (((b9 + 1) + 1) + 1))), (2, .int (bt t n (b9 + 1))), (0, .ref mo), (1, .int (nI b9))]) hx hb d_M_behind_162 hl (k := 3) rfl (by decide) (by decide) rfl (fun ls hl => ?_)
                            refine lv_goto (tgt := 62) hx hb d_M_behind_165 (by decide) ?_
                            refine lv_iload hx hb d_M_behind_62 (lv_at hl 0 rfl) ?_
                            refine lv_iconst (v := 2) hx hb d_M_behind_64 (by decide) ?_
                            refine lv_icmp_ge (tgt := 168) hx hb d_M_behind_65 (by decide) (fun c_65 => ?_) (fun c_65 => ?_)
                            · -- 65: True
                              refine lv_iload_n hx hb d_M_behind_168 rfl (lv_at hl 1 rfl) ?_
                              exact z_iret hx hb hr hlocks hw (by unfold escP; rw [show escR t n b9 = .inr (zh (bt t n (b9 + 2)) * 16 + zh (bt t n (b9 + 3)), b9 + 4) by unfold escR; rw [if_neg (fun z => z.elim c_33 (fun z => c_39 z)), if_neg (fun z => z c_47), if_neg zo0, if_neg zo1]]; refine ⟨congrArg some (congrArg Value.int ?_), by rw [← hh18, ← hh17, ← hh1, z_put_put, z_put_put]⟩; show _ = zh (bt t n (b9 + 2)) * 16 + zh (bt t n (b9 + 3)); rw [Int32.mul_comm _ 16]; congr 1; congr 1; exact Int32.zero_add _) (by decide) (by decide) d_M_behind_169
                            · -- 65: False
                              exact absurd (by decide) c_65
                          · -- 121: False
                            have zn1 := c_121
                            refine lv_aload_n hx hb d_M_behind_124 rfl (lv_at hl 5 rfl) ?_
                            refine lv_iload hx hb d_M_behind_125 (lv_at hl 1 rfl) ?_
                            refine lv_iconst (v := (-1)) hx hb d_M_behind_127 (by decide) ?_
                            refine lv_icmp_ne (tgt := 138) hx hb d_M_behind_128 (by decide) (fun c_128 => ?_) (fun c_128 => ?_)
                            · -- 128: True
                              refine lv_iload_n hx hb d_M_behind_138 rfl (lv_at hl 6 rfl) ?_
                              refine z_callV (n := 1) (As := [.int (nI b9)]) (rest := []) ⟨hx, hb, hml, hown, hts⟩ (m_fail l g h17 f17_mo) (z_in k_914 rfl) (z_in k_7 rfl) (z_in k_911 rfl) (z_in k_913 rfl) (z_in ks_32 rfl) (by decide +kernel) ⟨by first | exact Nat.le_of_ble_eq_true rfl | (dsimp only; omega) | omega, by first | exact Nat.le_of_ble_eq_true rfl | (dsimp only; omega) | omega⟩ hK hE hw hA rfl f17_mo rfl hl.1 (Nat.le_of_ble_eq_true rfl) d_M_behind_139 ⟨by first | exact Nat.le_of_ble_eq_true rfl | (dsimp only; omega) | omega, by first | exact Nat.le_of_ble_eq_true rfl | (dsimp only; omega) | omega⟩ rfl (fun r9 h9 H locs hp hw => ?_)
                              obtain ⟨r8, hh19⟩ := hp
                              subst r8
                              obtain ⟨h19, e8⟩ : ∃ x9, x9 = h9 := ⟨_, rfl⟩
                              subst e8
                              have f19_mo : h19 mo = some ((20, 0), .inr (11, mF ma cod tpd (nI n) fls cls9 ffl fcl nds sai ous (nI (((b9 + 1) + 1) + 1)) (nI b9))) := by rw [← hh19]; exact z_put_eq
                              have f19_ma_1 : h19 (ma 1) = some ((22, 0), .inl (g.2.1 1, 4000, .inl f)) := by rw [← hh19]; exact z_keep f17_mo f17_ma_1 (z_t1 (by decide))
                              refine W.eq (g2 := F0 m 142 ls []) rfl ?_
                              refine lv_iconst (v := 0) hx hb d_M_behind_142 (by decide) ?_
                              exact z_iret hx hb hr hlocks hw (by unfold escP; rw [show escR t n b9 = .inl (b9) by unfold escR; rw [if_neg (fun z => z.elim c_33 (fun z => c_39 z)), if_neg (fun z => z c_47), if_neg zo0, if_pos (show zh (bt t n (b9 + 3)) = -1 by simpa using zn1), if_neg c_128]]; exact ⟨((b9 + 1) + 1) + 1, by omega, by omega, rfl, by rw [← hh19, ← hh17, ← hh1, z_put_put, z_put_put]⟩) (by decide) (by decide) d_M_behind_143
                            · -- 128: False
                              refine lv_aload_n hx hb d_M_behind_131 rfl (lv_at hl 5 rfl) ?_
                              refine z_get hx hb hts (z_lay i_M) hown hK hw f17_mo rfl 4 (by decide) (z_in k_775 rfl) (fun _ h9 => h9) rfl d_M_behind_132 ?_
                              refine lv_goto (tgt := 139) hx hb d_M_behind_135 (by decide) ?_
                              refine z_callV (n := 1) (As := [.int (nI n)]) (rest := []) ⟨hx, hb, hml, hown, hts⟩ (m_fail l g h17 f17_mo) (z_in k_914 rfl) (z_in k_7 rfl) (z_in k_911 rfl) (z_in k_913 rfl) (z_in ks_32 rfl) (by decide +kernel) ⟨by first | exact Nat.le_of_ble_eq_true rfl | (dsimp only; omega) | omega, by first | exact Nat.le_of_ble_eq_true rfl | (dsimp only; omega) | omega⟩ hK hE hw hA rfl f17_mo rfl hl.1 (Nat.le_of_ble_eq_true rfl) d_M_behind_139 ⟨by first | exact Nat.le_of_ble_eq_true rfl | (dsimp only; omega) | omega, by first | exact Nat.le_of_ble_eq_true rfl | (dsimp only; omega) | omega⟩ rfl (fun r9 h9 H locs hp hw => ?_)
                              obtain ⟨r8, hh20⟩ := hp
                              subst r8
                              obtain ⟨h20, e8⟩ : ∃ x9, x9 = h9 := ⟨_, rfl⟩
                              subst e8
                              have f20_mo : h20 mo = some ((20, 0), .inr (11, mF ma cod tpd (nI n) fls cls9 ffl fcl nds sai ous (nI (((b9 + 1) + 1) + 1)) (nI n))) := by rw [← hh20]; exact z_put_eq
                              have f20_ma_1 : h20 (ma 1) = some ((22, 0), .inl (g.2.1 1, 4000, .inl f)) := by rw [← hh20]; exact z_keep f17_mo f17_ma_1 (z_t1 (by decide))
                              refine W.eq (g2 := F0 m 142 ls []) rfl ?_
                              refine lv_iconst (v := 0) hx hb d_M_behind_142 (by decide) ?_
                              exact z_iret hx hb hr hlocks hw (by unfold escP; rw [show escR t n b9 = .inl (n) by unfold escR; rw [if_neg (fun z => z.elim c_33 (fun z => c_39 z)), if_neg (fun z => z c_47), if_neg zo0, if_pos (show zh (bt t n (b9 + 3)) = -1 by simpa using zn1), if_pos (by simpa using c_128)]]; exact ⟨((b9 + 1) + 1) + 1, by omega, by omega, rfl, by rw [← hh20, ← hh17, ← hh1, z_put_put, z_put_put]⟩) (by decide) (by decide) d_M_behind_143
                        · -- 94: False
                          refine lv_iload hx hb d_M_behind_97 (lv_at hl 0 rfl) ?_
                          refine lv_bipush (v := 102) hx hb d_M_behind_99 (by decide) ?_
                          refine lv_icmp_gt (tgt := 115) hx hb d_M_behind_101 (by decide) (fun c_101 => ?_) (fun c_101 => ?_)
                          · -- 101: True
                            refine lv_iconst (v := (-1)) hx hb d_M_behind_115 (by decide) ?_
                            refine z_topi (y := zh (bt t n (((b9 + 1) + 1) + 1))) (by unfold zh; rw [if_neg (by rw [c_79]; decide), if_neg (fun z => absurd z.2 (Int32.not_le.mpr c_101))]) ?_
                            refine lv_istore (lv' := [(6, .int (zh (bt t n (((b9 + 1) + 1) + 1)))), (5, .int (bt t n (((b9 + 1) + 1) + 1))), (4, .int 1), (3, .int (0 + (zh (bt t n ((b9 + 1) + 1))))), (2, .int (bt t n (b9 + 1))), (0, .ref mo), (1, .int (nI b9))]) hx hb d_M_behind_116 hl (by decide) rfl (fun ls hl => ?_)
                            refine lv_iload hx hb d_M_behind_118 (lv_at hl 0 rfl) ?_
                            refine lv_iconst (v := (-1)) hx hb d_M_behind_120 (by decide) ?_
                            refine lv_icmp_ne (tgt := 144) hx hb d_M_behind_121 (by decide) (fun c_121 => ?_) (fun c_121 => ?_)
                            · -- 121: True
                              have zo1 : ¬ zh (bt t n (((b9 + 1) + 1) + 1)) = -1 := c_121
                              have zl1 := (zh_bt (fun k hk => (hf k hk).1) zo1).1
                              refine lv_bipush (v := 16) hx hb d_M_behind_144 (by decide) ?_
                              refine lv_iload_n hx hb d_M_behind_146 rfl (lv_at hl 3 rfl) ?_
                              refine lv_imul hx hb d_M_behind_147 ?_
                              refine lv_iload hx hb d_M_behind_148 (lv_at hl 0 rfl) ?_
                              refine lv_iadd hx hb d_M_behind_150 ?_
                              refine lv_istore_n (lv' := [(3, .int ((16 * (0 + (zh (bt t n ((b9 + 1) + 1))))) + (zh (bt t n (((b9 + 1) + 1) + 1))))), (6, .int (zh (bt t n (((b9 + 1) + 1) + 1)))), (5, .int (bt t n (((b9 + 1) + 1) + 1))), (4, .int 1), (2, .int (bt t n (b9 + 1))), (0, .ref mo), (1, .int (nI b9))]) hx hb d_M_behind_151 rfl hl (by decide) rfl (fun ls hl => ?_)
                              refine lv_aload_n hx hb d_M_behind_152 rfl (lv_at hl 5 rfl) ?_
                              refine lv_dup hx hb d_M_behind_153 rfl ?_
                              refine z_get hx hb hts (z_lay i_M) hown hK hw f17_mo rfl 29 (by decide) (z_in k_800 rfl) (fun _ h9 => h9) rfl d_M_behind_154 ?_
                              refine lv_iconst (v := 1) hx hb d_M_behind_157 (by decide) ?_
                              refine lv_iadd hx hb d_M_behind_158 ?_
                              refine z_topi (y := nI ((((b9 + 1) + 1) + 1) + 1)) (nI_add (((b9 + 1) + 1) + 1) 1) ?_
                              refine z_putf (ty := .int) hx hb hts (z_lay i_M) t_M t_M_ok n_M hown hK hw f17_mo rfl 29 (by decide) (z_in k_800 rfl) (fun _ h9 => h9) rfl (by decide +kernel) rfl rfl (Nat.le_of_ble_eq_true rfl) d_M_behind_159 (fun H locs hw => ?_)
                              obtain ⟨h21, hh21⟩ : ∃ x9, z_put h17 mo (20, 0) (.inr (11, mF ma cod tpd (nI n) fls cls9 ffl fcl nds sai ous (nI ((((b9 + 1) + 1) + 1) + 1)) (-1))) = x9 := ⟨_, rfl⟩
                              have hw : z_S g A s.heap h21 H locs := by rw [← hh21]; exact hw
                              have f21_mo : h21 mo = some ((20, 0), .inr (11, mF ma cod tpd (nI n) fls cls9 ffl fcl nds sai ous (nI ((((b9 + 1) + 1) + 1) + 1)) (-1))) := by rw [← hh21]; exact z_put_eq
                              have f21_ma_1 : h21 (ma 1) = some ((22, 0), .inl (g.2.1 1, 4000, .inl f)) := by rw [← hh21]; exact z_keep f17_mo f17_ma_1 (z_t1 (by decide))
                              refine lv_iinc (v := 2) (lv' := [(4, .int 2), (3, .int ((16 * (0 + (zh (bt t n ((b9 + 1) + 1))))) + (zh (bt t n (((b9 + 1) + 1) + 1))))), (6, .int (zh (bt t n (((b9 + 1) + 1) + 1)))), (5, .int (bt t n (((b9 + 1) + 1) + 1))), (2, .int (bt t n (b9 + 1))), (0, .ref mo), (1, .int (nI b9))]) hx hb d_M_behind_162 hl (k := 3) rfl (by decide) (by decide) rfl (fun ls hl => ?_)
                              refine lv_goto (tgt := 62) hx hb d_M_behind_165 (by decide) ?_
                              refine lv_iload hx hb d_M_behind_62 (lv_at hl 0 rfl) ?_
                              refine lv_iconst (v := 2) hx hb d_M_behind_64 (by decide) ?_
                              refine lv_icmp_ge (tgt := 168) hx hb d_M_behind_65 (by decide) (fun c_65 => ?_) (fun c_65 => ?_)
                              · -- 65: True
                                refine lv_iload_n hx hb d_M_behind_168 rfl (lv_at hl 1 rfl) ?_
                                exact z_iret hx hb hr hlocks hw (by unfold escP; rw [show escR t n b9 = .inr (zh (bt t n (b9 + 2)) * 16 + zh (bt t n (b9 + 3)), b9 + 4) by unfold escR; rw [if_neg (fun z => z.elim c_33 (fun z => c_39 z)), if_neg (fun z => z c_47), if_neg zo0, if_neg zo1]]; refine ⟨congrArg some (congrArg Value.int ?_), by rw [← hh21, ← hh17, ← hh1, z_put_put, z_put_put]⟩; show _ = zh (bt t n (b9 + 2)) * 16 + zh (bt t n (b9 + 3)); rw [Int32.mul_comm _ 16]; congr 1; congr 1; exact Int32.zero_add _) (by decide) (by decide) d_M_behind_169
                              · -- 65: False
                                exact absurd (by decide) c_65
                            · -- 121: False
                              have zn1 := c_121
                              refine lv_aload_n hx hb d_M_behind_124 rfl (lv_at hl 5 rfl) ?_
                              refine lv_iload hx hb d_M_behind_125 (lv_at hl 1 rfl) ?_
                              refine lv_iconst (v := (-1)) hx hb d_M_behind_127 (by decide) ?_
                              refine lv_icmp_ne (tgt := 138) hx hb d_M_behind_128 (by decide) (fun c_128 => ?_) (fun c_128 => ?_)
                              · -- 128: True
                                refine lv_iload_n hx hb d_M_behind_138 rfl (lv_at hl 6 rfl) ?_
                                refine z_callV (n := 1) (As := [.int (nI b9)]) (rest := []) ⟨hx, hb, hml, hown, hts⟩ (m_fail l g h17 f17_mo) (z_in k_914 rfl) (z_in k_7 rfl) (z_in k_911 rfl) (z_in k_913 rfl) (z_in ks_32 rfl) (by decide +kernel) ⟨by first | exact Nat.le_of_ble_eq_true rfl | (dsimp only; omega) | omega, by first | exact Nat.le_of_ble_eq_true rfl | (dsimp only; omega) | omega⟩ hK hE hw hA rfl f17_mo rfl hl.1 (Nat.le_of_ble_eq_true rfl) d_M_behind_139 ⟨by first | exact Nat.le_of_ble_eq_true rfl | (dsimp only; omega) | omega, by first | exact Nat.le_of_ble_eq_true rfl | (dsimp only; omega) | omega⟩ rfl (fun r9 h9 H locs hp hw => ?_)
                                obtain ⟨r8, hh22⟩ := hp
                                subst r8
                                obtain ⟨h22, e8⟩ : ∃ x9, x9 = h9 := ⟨_, rfl⟩
                                subst e8
                                have f22_mo : h22 mo = some ((20, 0), .inr (11, mF ma cod tpd (nI n) fls cls9 ffl fcl nds sai ous (nI (((b9 + 1) + 1) + 1)) (nI b9))) := by rw [← hh22]; exact z_put_eq
                                have f22_ma_1 : h22 (ma 1) = some ((22, 0), .inl (g.2.1 1, 4000, .inl f)) := by rw [← hh22]; exact z_keep f17_mo f17_ma_1 (z_t1 (by decide))
                                refine W.eq (g2 := F0 m 142 ls []) rfl ?_
                                refine lv_iconst (v := 0) hx hb d_M_behind_142 (by decide) ?_
                                exact z_iret hx hb hr hlocks hw (by unfold escP; rw [show escR t n b9 = .inl (b9) by unfold escR; rw [if_neg (fun z => z.elim c_33 (fun z => c_39 z)), if_neg (fun z => z c_47), if_neg zo0, if_pos (show zh (bt t n (b9 + 3)) = -1 by simpa using zn1), if_neg c_128]]; exact ⟨((b9 + 1) + 1) + 1, by omega, by omega, rfl, by rw [← hh22, ← hh17, ← hh1, z_put_put, z_put_put]⟩) (by decide) (by decide) d_M_behind_143
                              · -- 128: False
                                refine lv_aload_n hx hb d_M_behind_131 rfl (lv_at hl 5 rfl) ?_
                                refine z_get hx hb hts (z_lay i_M) hown hK hw f17_mo rfl 4 (by decide) (z_in k_775 rfl) (fun _ h9 => h9) rfl d_M_behind_132 ?_
                                refine lv_goto (tgt := 139) hx hb d_M_behind_135 (by decide) ?_
                                refine z_callV (n := 1) (As := [.int (nI n)]) (rest := []) ⟨hx, hb, hml, hown, hts⟩ (m_fail l g h17 f17_mo) (z_in k_914 rfl) (z_in k_7 rfl) (z_in k_911 rfl) (z_in k_913 rfl) (z_in ks_32 rfl) (by decide +kernel) ⟨by first | exact Nat.le_of_ble_eq_true rfl | (dsimp only; omega) | omega, by first | exact Nat.le_of_ble_eq_true rfl | (dsimp only; omega) | omega⟩ hK hE hw hA rfl f17_mo rfl hl.1 (Nat.le_of_ble_eq_true rfl) d_M_behind_139 ⟨by first | exact Nat.le_of_ble_eq_true rfl | (dsimp only; omega) | omega, by first | exact Nat.le_of_ble_eq_true rfl | (dsimp only; omega) | omega⟩ rfl (fun r9 h9 H locs hp hw => ?_)
                                obtain ⟨r8, hh23⟩ := hp
                                subst r8
                                obtain ⟨h23, e8⟩ : ∃ x9, x9 = h9 := ⟨_, rfl⟩
                                subst e8
                                have f23_mo : h23 mo = some ((20, 0), .inr (11, mF ma cod tpd (nI n) fls cls9 ffl fcl nds sai ous (nI (((b9 + 1) + 1) + 1)) (nI n))) := by rw [← hh23]; exact z_put_eq
                                have f23_ma_1 : h23 (ma 1) = some ((22, 0), .inl (g.2.1 1, 4000, .inl f)) := by rw [← hh23]; exact z_keep f17_mo f17_ma_1 (z_t1 (by decide))
                                refine W.eq (g2 := F0 m 142 ls []) rfl ?_
                                refine lv_iconst (v := 0) hx hb d_M_behind_142 (by decide) ?_
                                exact z_iret hx hb hr hlocks hw (by unfold escP; rw [show escR t n b9 = .inl (n) by unfold escR; rw [if_neg (fun z => z.elim c_33 (fun z => c_39 z)), if_neg (fun z => z c_47), if_neg zo0, if_pos (show zh (bt t n (b9 + 3)) = -1 by simpa using zn1), if_pos (by simpa using c_128)]]; exact ⟨((b9 + 1) + 1) + 1, by omega, by omega, rfl, by rw [← hh23, ← hh17, ← hh1, z_put_put, z_put_put]⟩) (by decide) (by decide) d_M_behind_143
                          · -- 101: False
                            refine lv_iload hx hb d_M_behind_104 (lv_at hl 0 rfl) ?_
                            refine lv_bipush (v := 97) hx hb d_M_behind_106 (by decide) ?_
                            refine lv_isub hx hb d_M_behind_108 ?_
                            refine lv_bipush (v := 10) hx hb d_M_behind_109 (by decide) ?_
                            refine lv_iadd hx hb d_M_behind_111 ?_
                            refine lv_goto (tgt := 116) hx hb d_M_behind_112 (by decide) ?_
                            refine z_topi (y := zh (bt t n (((b9 + 1) + 1) + 1))) (by unfold zh; rw [if_neg (by rw [c_79]; decide), if_pos ⟨Int32.not_lt.mp c_94, Int32.not_lt.mp c_101⟩]) ?_
                            refine lv_istore (lv' := [(6, .int (zh (bt t n (((b9 + 1) + 1) + 1)))), (5, .int (bt t n (((b9 + 1) + 1) + 1))), (4, .int 1), (3, .int (0 + (zh (bt t n ((b9 + 1) + 1))))), (2, .int (bt t n (b9 + 1))), (0, .ref mo), (1, .int (nI b9))]) hx hb d_M_behind_116 hl (by decide) rfl (fun ls hl => ?_)
                            refine lv_iload hx hb d_M_behind_118 (lv_at hl 0 rfl) ?_
                            refine lv_iconst (v := (-1)) hx hb d_M_behind_120 (by decide) ?_
                            refine lv_icmp_ne (tgt := 144) hx hb d_M_behind_121 (by decide) (fun c_121 => ?_) (fun c_121 => ?_)
                            · -- 121: True
                              have zo1 : ¬ zh (bt t n (((b9 + 1) + 1) + 1)) = -1 := c_121
                              have zl1 := (zh_bt (fun k hk => (hf k hk).1) zo1).1
                              refine lv_bipush (v := 16) hx hb d_M_behind_144 (by decide) ?_
                              refine lv_iload_n hx hb d_M_behind_146 rfl (lv_at hl 3 rfl) ?_
                              refine lv_imul hx hb d_M_behind_147 ?_
                              refine lv_iload hx hb d_M_behind_148 (lv_at hl 0 rfl) ?_
                              refine lv_iadd hx hb d_M_behind_150 ?_
                              refine lv_istore_n (lv' := [(3, .int ((16 * (0 + (zh (bt t n ((b9 + 1) + 1))))) + (zh (bt t n (((b9 + 1) + 1) + 1))))), (6, .int (zh (bt t n (((b9 + 1) + 1) + 1)))), (5, .int (bt t n (((b9 + 1) + 1) + 1))), (4, .int 1), (2, .int (bt t n (b9 + 1))), (0, .ref mo), (1, .int (nI b9))]) hx hb d_M_behind_151 rfl hl (by decide) rfl (fun ls hl => ?_)
                              refine lv_aload_n hx hb d_M_behind_152 rfl (lv_at hl 5 rfl) ?_
                              refine lv_dup hx hb d_M_behind_153 rfl ?_
                              refine z_get hx hb hts (z_lay i_M) hown hK hw f17_mo rfl 29 (by decide) (z_in k_800 rfl) (fun _ h9 => h9) rfl d_M_behind_154 ?_
                              refine lv_iconst (v := 1) hx hb d_M_behind_157 (by decide) ?_
                              refine lv_iadd hx hb d_M_behind_158 ?_
                              refine z_topi (y := nI ((((b9 + 1) + 1) + 1) + 1)) (nI_add (((b9 + 1) + 1) + 1) 1) ?_
                              refine z_putf (ty := .int) hx hb hts (z_lay i_M) t_M t_M_ok n_M hown hK hw f17_mo rfl 29 (by decide) (z_in k_800 rfl) (fun _ h9 => h9) rfl (by decide +kernel) rfl rfl (Nat.le_of_ble_eq_true rfl) d_M_behind_159 (fun H locs hw => ?_)
                              obtain ⟨h24, hh24⟩ : ∃ x9, z_put h17 mo (20, 0) (.inr (11, mF ma cod tpd (nI n) fls cls9 ffl fcl nds sai ous (nI ((((b9 + 1) + 1) + 1) + 1)) (-1))) = x9 := ⟨_, rfl⟩
                              have hw : z_S g A s.heap h24 H locs := by rw [← hh24]; exact hw
                              have f24_mo : h24 mo = some ((20, 0), .inr (11, mF ma cod tpd (nI n) fls cls9 ffl fcl nds sai ous (nI ((((b9 + 1) + 1) + 1) + 1)) (-1))) := by rw [← hh24]; exact z_put_eq
                              have f24_ma_1 : h24 (ma 1) = some ((22, 0), .inl (g.2.1 1, 4000, .inl f)) := by rw [← hh24]; exact z_keep f17_mo f17_ma_1 (z_t1 (by decide))
                              refine lv_iinc (v := 2) (lv' := [(4, .int 2), (3, .int ((16 * (0 + (zh (bt t n ((b9 + 1) + 1))))) + (zh (bt t n (((b9 + 1) + 1) + 1))))), (6, .int (zh (bt t n (((b9 + 1) + 1) + 1)))), (5, .int (bt t n (((b9 + 1) + 1) + 1))), (2, .int (bt t n (b9 + 1))), (0, .ref mo), (1, .int (nI b9))]) hx hb d_M_behind_162 hl (k := 3) rfl (by decide) (by decide) rfl (fun ls hl => ?_)
                              refine lv_goto (tgt := 62) hx hb d_M_behind_165 (by decide) ?_
                              refine lv_iload hx hb d_M_behind_62 (lv_at hl 0 rfl) ?_
                              refine lv_iconst (v := 2) hx hb d_M_behind_64 (by decide) ?_
                              refine lv_icmp_ge (tgt := 168) hx hb d_M_behind_65 (by decide) (fun c_65 => ?_) (fun c_65 => ?_)
                              · -- 65: True
                                refine lv_iload_n hx hb d_M_behind_168 rfl (lv_at hl 1 rfl) ?_
                                exact z_iret hx hb hr hlocks hw (by unfold escP; rw [show escR t n b9 = .inr (zh (bt t n (b9 + 2)) * 16 + zh (bt t n (b9 + 3)), b9 + 4) by unfold escR; rw [if_neg (fun z => z.elim c_33 (fun z => c_39 z)), if_neg (fun z => z c_47), if_neg zo0, if_neg zo1]]; refine ⟨congrArg some (congrArg Value.int ?_), by rw [← hh24, ← hh17, ← hh1, z_put_put, z_put_put]⟩; show _ = zh (bt t n (b9 + 2)) * 16 + zh (bt t n (b9 + 3)); rw [Int32.mul_comm _ 16]; congr 1; congr 1; exact Int32.zero_add _) (by decide) (by decide) d_M_behind_169
                              · -- 65: False
                                exact absurd (by decide) c_65
                            · -- 121: False
                              have zn1 := c_121
                              refine lv_aload_n hx hb d_M_behind_124 rfl (lv_at hl 5 rfl) ?_
                              refine lv_iload hx hb d_M_behind_125 (lv_at hl 1 rfl) ?_
                              refine lv_iconst (v := (-1)) hx hb d_M_behind_127 (by decide) ?_
                              refine lv_icmp_ne (tgt := 138) hx hb d_M_behind_128 (by decide) (fun c_128 => ?_) (fun c_128 => ?_)
                              · -- 128: True
                                refine lv_iload_n hx hb d_M_behind_138 rfl (lv_at hl 6 rfl) ?_
                                refine z_callV (n := 1) (As := [.int (nI b9)]) (rest := []) ⟨hx, hb, hml, hown, hts⟩ (m_fail l g h17 f17_mo) (z_in k_914 rfl) (z_in k_7 rfl) (z_in k_911 rfl) (z_in k_913 rfl) (z_in ks_32 rfl) (by decide +kernel) ⟨by first | exact Nat.le_of_ble_eq_true rfl | (dsimp only; omega) | omega, by first | exact Nat.le_of_ble_eq_true rfl | (dsimp only; omega) | omega⟩ hK hE hw hA rfl f17_mo rfl hl.1 (Nat.le_of_ble_eq_true rfl) d_M_behind_139 ⟨by first | exact Nat.le_of_ble_eq_true rfl | (dsimp only; omega) | omega, by first | exact Nat.le_of_ble_eq_true rfl | (dsimp only; omega) | omega⟩ rfl (fun r9 h9 H locs hp hw => ?_)
                                obtain ⟨r8, hh25⟩ := hp
                                subst r8
                                obtain ⟨h25, e8⟩ : ∃ x9, x9 = h9 := ⟨_, rfl⟩
                                subst e8
                                have f25_mo : h25 mo = some ((20, 0), .inr (11, mF ma cod tpd (nI n) fls cls9 ffl fcl nds sai ous (nI (((b9 + 1) + 1) + 1)) (nI b9))) := by rw [← hh25]; exact z_put_eq
                                have f25_ma_1 : h25 (ma 1) = some ((22, 0), .inl (g.2.1 1, 4000, .inl f)) := by rw [← hh25]; exact z_keep f17_mo f17_ma_1 (z_t1 (by decide))
                                refine W.eq (g2 := F0 m 142 ls []) rfl ?_
                                refine lv_iconst (v := 0) hx hb d_M_behind_142 (by decide) ?_
                                exact z_iret hx hb hr hlocks hw (by unfold escP; rw [show escR t n b9 = .inl (b9) by unfold escR; rw [if_neg (fun z => z.elim c_33 (fun z => c_39 z)), if_neg (fun z => z c_47), if_neg zo0, if_pos (show zh (bt t n (b9 + 3)) = -1 by simpa using zn1), if_neg c_128]]; exact ⟨((b9 + 1) + 1) + 1, by omega, by omega, rfl, by rw [← hh25, ← hh17, ← hh1, z_put_put, z_put_put]⟩) (by decide) (by decide) d_M_behind_143
                              · -- 128: False
                                refine lv_aload_n hx hb d_M_behind_131 rfl (lv_at hl 5 rfl) ?_
                                refine z_get hx hb hts (z_lay i_M) hown hK hw f17_mo rfl 4 (by decide) (z_in k_775 rfl) (fun _ h9 => h9) rfl d_M_behind_132 ?_
                                refine lv_goto (tgt := 139) hx hb d_M_behind_135 (by decide) ?_
                                refine z_callV (n := 1) (As := [.int (nI n)]) (rest := []) ⟨hx, hb, hml, hown, hts⟩ (m_fail l g h17 f17_mo) (z_in k_914 rfl) (z_in k_7 rfl) (z_in k_911 rfl) (z_in k_913 rfl) (z_in ks_32 rfl) (by decide +kernel) ⟨by first | exact Nat.le_of_ble_eq_true rfl | (dsimp only; omega) | omega, by first | exact Nat.le_of_ble_eq_true rfl | (dsimp only; omega) | omega⟩ hK hE hw hA rfl f17_mo rfl hl.1 (Nat.le_of_ble_eq_true rfl) d_M_behind_139 ⟨by first | exact Nat.le_of_ble_eq_true rfl | (dsimp only; omega) | omega, by first | exact Nat.le_of_ble_eq_true rfl | (dsimp only; omega) | omega⟩ rfl (fun r9 h9 H locs hp hw => ?_)
                                obtain ⟨r8, hh26⟩ := hp
                                subst r8
                                obtain ⟨h26, e8⟩ : ∃ x9, x9 = h9 := ⟨_, rfl⟩
                                subst e8
                                have f26_mo : h26 mo = some ((20, 0), .inr (11, mF ma cod tpd (nI n) fls cls9 ffl fcl nds sai ous (nI (((b9 + 1) + 1) + 1)) (nI n))) := by rw [← hh26]; exact z_put_eq
                                have f26_ma_1 : h26 (ma 1) = some ((22, 0), .inl (g.2.1 1, 4000, .inl f)) := by rw [← hh26]; exact z_keep f17_mo f17_ma_1 (z_t1 (by decide))
                                refine W.eq (g2 := F0 m 142 ls []) rfl ?_
                                refine lv_iconst (v := 0) hx hb d_M_behind_142 (by decide) ?_
                                exact z_iret hx hb hr hlocks hw (by unfold escP; rw [show escR t n b9 = .inl (n) by unfold escR; rw [if_neg (fun z => z.elim c_33 (fun z => c_39 z)), if_neg (fun z => z c_47), if_neg zo0, if_pos (show zh (bt t n (b9 + 3)) = -1 by simpa using zn1), if_pos (by simpa using c_128)]]; exact ⟨((b9 + 1) + 1) + 1, by omega, by omega, rfl, by rw [← hh26, ← hh17, ← hh1, z_put_put, z_put_put]⟩) (by decide) (by decide) d_M_behind_143
                      · -- 79: False
                        have c_79 : (isDig (bt t n (((b9 + 1) + 1) + 1))) = true := zb_t c_79
                        refine lv_iload hx hb d_M_behind_82 (lv_at hl 0 rfl) ?_
                        refine lv_bipush (v := 48) hx hb d_M_behind_84 (by decide) ?_
                        refine lv_isub hx hb d_M_behind_86 ?_
                        refine lv_goto (tgt := 116) hx hb d_M_behind_87 (by decide) ?_
                        refine z_topi (y := zh (bt t n (((b9 + 1) + 1) + 1))) (by unfold zh; rw [if_pos c_79]) ?_
                        refine lv_istore (lv' := [(6, .int (zh (bt t n (((b9 + 1) + 1) + 1)))), (5, .int (bt t n (((b9 + 1) + 1) + 1))), (4, .int 1), (3, .int (0 + (zh (bt t n ((b9 + 1) + 1))))), (2, .int (bt t n (b9 + 1))), (0, .ref mo), (1, .int (nI b9))]) hx hb d_M_behind_116 hl (by decide) rfl (fun ls hl => ?_)
                        refine lv_iload hx hb d_M_behind_118 (lv_at hl 0 rfl) ?_
                        refine lv_iconst (v := (-1)) hx hb d_M_behind_120 (by decide) ?_
                        refine lv_icmp_ne (tgt := 144) hx hb d_M_behind_121 (by decide) (fun c_121 => ?_) (fun c_121 => ?_)
                        · -- 121: True
                          have zo1 : ¬ zh (bt t n (((b9 + 1) + 1) + 1)) = -1 := c_121
                          have zl1 := (zh_bt (fun k hk => (hf k hk).1) zo1).1
                          refine lv_bipush (v := 16) hx hb d_M_behind_144 (by decide) ?_
                          refine lv_iload_n hx hb d_M_behind_146 rfl (lv_at hl 3 rfl) ?_
                          refine lv_imul hx hb d_M_behind_147 ?_
                          refine lv_iload hx hb d_M_behind_148 (lv_at hl 0 rfl) ?_
                          refine lv_iadd hx hb d_M_behind_150 ?_
                          refine lv_istore_n (lv' := [(3, .int ((16 * (0 + (zh (bt t n ((b9 + 1) + 1))))) + (zh (bt t n (((b9 + 1) + 1) + 1))))), (6, .int (zh (bt t n (((b9 + 1) + 1) + 1)))), (5, .int (bt t n (((b9 + 1) + 1) + 1))), (4, .int 1), (2, .int (bt t n (b9 + 1))), (0, .ref mo), (1, .int (nI b9))]) hx hb d_M_behind_151 rfl hl (by decide) rfl (fun ls hl => ?_)
                          refine lv_aload_n hx hb d_M_behind_152 rfl (lv_at hl 5 rfl) ?_
                          refine lv_dup hx hb d_M_behind_153 rfl ?_
                          refine z_get hx hb hts (z_lay i_M) hown hK hw f17_mo rfl 29 (by decide) (z_in k_800 rfl) (fun _ h9 => h9) rfl d_M_behind_154 ?_
                          refine lv_iconst (v := 1) hx hb d_M_behind_157 (by decide) ?_
                          refine lv_iadd hx hb d_M_behind_158 ?_
                          refine z_topi (y := nI ((((b9 + 1) + 1) + 1) + 1)) (nI_add (((b9 + 1) + 1) + 1) 1) ?_
                          refine z_putf (ty := .int) hx hb hts (z_lay i_M) t_M t_M_ok n_M hown hK hw f17_mo rfl 29 (by decide) (z_in k_800 rfl) (fun _ h9 => h9) rfl (by decide +kernel) rfl rfl (Nat.le_of_ble_eq_true rfl) d_M_behind_159 (fun H locs hw => ?_)
                          obtain ⟨h27, hh27⟩ : ∃ x9, z_put h17 mo (20, 0) (.inr (11, mF ma cod tpd (nI n) fls cls9 ffl fcl nds sai ous (nI ((((b9 + 1) + 1) + 1) + 1)) (-1))) = x9 := ⟨_, rfl⟩
                          have hw : z_S g A s.heap h27 H locs := by rw [← hh27]; exact hw
                          have f27_mo : h27 mo = some ((20, 0), .inr (11, mF ma cod tpd (nI n) fls cls9 ffl fcl nds sai ous (nI ((((b9 + 1) + 1) + 1) + 1)) (-1))) := by rw [← hh27]; exact z_put_eq
                          have f27_ma_1 : h27 (ma 1) = some ((22, 0), .inl (g.2.1 1, 4000, .inl f)) := by rw [← hh27]; exact z_keep f17_mo f17_ma_1 (z_t1 (by decide))
                          refine lv_iinc (v := 2) (lv' := [(4, .int 2), (3, .int ((16 * (0 + (zh (bt t n ((b9 + 1) + 1))))) + (zh (bt t n (((b9 + 1) + 1) + 1))))), (6, .int (zh (bt t n (((b9 + 1) + 1) + 1)))), (5, .int (bt t n (((b9 + 1) + 1) + 1))), (2, .int (bt t n (b9 + 1))), (0, .ref mo), (1, .int (nI b9))]) hx hb d_M_behind_162 hl (k := 3) rfl (by decide) (by decide) rfl (fun ls hl => ?_)
                          refine lv_goto (tgt := 62) hx hb d_M_behind_165 (by decide) ?_
                          refine lv_iload hx hb d_M_behind_62 (lv_at hl 0 rfl) ?_
                          refine lv_iconst (v := 2) hx hb d_M_behind_64 (by decide) ?_
                          refine lv_icmp_ge (tgt := 168) hx hb d_M_behind_65 (by decide) (fun c_65 => ?_) (fun c_65 => ?_)
                          · -- 65: True
                            refine lv_iload_n hx hb d_M_behind_168 rfl (lv_at hl 1 rfl) ?_
                            exact z_iret hx hb hr hlocks hw (by unfold escP; rw [show escR t n b9 = .inr (zh (bt t n (b9 + 2)) * 16 + zh (bt t n (b9 + 3)), b9 + 4) by unfold escR; rw [if_neg (fun z => z.elim c_33 (fun z => c_39 z)), if_neg (fun z => z c_47), if_neg zo0, if_neg zo1]]; refine ⟨congrArg some (congrArg Value.int ?_), by rw [← hh27, ← hh17, ← hh1, z_put_put, z_put_put]⟩; show _ = zh (bt t n (b9 + 2)) * 16 + zh (bt t n (b9 + 3)); rw [Int32.mul_comm _ 16]; congr 1; congr 1; exact Int32.zero_add _) (by decide) (by decide) d_M_behind_169
                          · -- 65: False
                            exact absurd (by decide) c_65
                        · -- 121: False
                          have zn1 := c_121
                          refine lv_aload_n hx hb d_M_behind_124 rfl (lv_at hl 5 rfl) ?_
                          refine lv_iload hx hb d_M_behind_125 (lv_at hl 1 rfl) ?_
                          refine lv_iconst (v := (-1)) hx hb d_M_behind_127 (by decide) ?_
                          refine lv_icmp_ne (tgt := 138) hx hb d_M_behind_128 (by decide) (fun c_128 => ?_) (fun c_128 => ?_)
                          · -- 128: True
                            refine lv_iload_n hx hb d_M_behind_138 rfl (lv_at hl 6 rfl) ?_
                            refine z_callV (n := 1) (As := [.int (nI b9)]) (rest := []) ⟨hx, hb, hml, hown, hts⟩ (m_fail l g h17 f17_mo) (z_in k_914 rfl) (z_in k_7 rfl) (z_in k_911 rfl) (z_in k_913 rfl) (z_in ks_32 rfl) (by decide +kernel) ⟨by first | exact Nat.le_of_ble_eq_true rfl | (dsimp only; omega) | omega, by first | exact Nat.le_of_ble_eq_true rfl | (dsimp only; omega) | omega⟩ hK hE hw hA rfl f17_mo rfl hl.1 (Nat.le_of_ble_eq_true rfl) d_M_behind_139 ⟨by first | exact Nat.le_of_ble_eq_true rfl | (dsimp only; omega) | omega, by first | exact Nat.le_of_ble_eq_true rfl | (dsimp only; omega) | omega⟩ rfl (fun r9 h9 H locs hp hw => ?_)
                            obtain ⟨r8, hh28⟩ := hp
                            subst r8
                            obtain ⟨h28, e8⟩ : ∃ x9, x9 = h9 := ⟨_, rfl⟩
                            subst e8
                            have f28_mo : h28 mo = some ((20, 0), .inr (11, mF ma cod tpd (nI n) fls cls9 ffl fcl nds sai ous (nI (((b9 + 1) + 1) + 1)) (nI b9))) := by rw [← hh28]; exact z_put_eq
                            have f28_ma_1 : h28 (ma 1) = some ((22, 0), .inl (g.2.1 1, 4000, .inl f)) := by rw [← hh28]; exact z_keep f17_mo f17_ma_1 (z_t1 (by decide))
                            refine W.eq (g2 := F0 m 142 ls []) rfl ?_
                            refine lv_iconst (v := 0) hx hb d_M_behind_142 (by decide) ?_
                            exact z_iret hx hb hr hlocks hw (by unfold escP; rw [show escR t n b9 = .inl (b9) by unfold escR; rw [if_neg (fun z => z.elim c_33 (fun z => c_39 z)), if_neg (fun z => z c_47), if_neg zo0, if_pos (show zh (bt t n (b9 + 3)) = -1 by simpa using zn1), if_neg c_128]]; exact ⟨((b9 + 1) + 1) + 1, by omega, by omega, rfl, by rw [← hh28, ← hh17, ← hh1, z_put_put, z_put_put]⟩) (by decide) (by decide) d_M_behind_143
                          · -- 128: False
                            refine lv_aload_n hx hb d_M_behind_131 rfl (lv_at hl 5 rfl) ?_
                            refine z_get hx hb hts (z_lay i_M) hown hK hw f17_mo rfl 4 (by decide) (z_in k_775 rfl) (fun _ h9 => h9) rfl d_M_behind_132 ?_
                            refine lv_goto (tgt := 139) hx hb d_M_behind_135 (by decide) ?_
                            refine z_callV (n := 1) (As := [.int (nI n)]) (rest := []) ⟨hx, hb, hml, hown, hts⟩ (m_fail l g h17 f17_mo) (z_in k_914 rfl) (z_in k_7 rfl) (z_in k_911 rfl) (z_in k_913 rfl) (z_in ks_32 rfl) (by decide +kernel) ⟨by first | exact Nat.le_of_ble_eq_true rfl | (dsimp only; omega) | omega, by first | exact Nat.le_of_ble_eq_true rfl | (dsimp only; omega) | omega⟩ hK hE hw hA rfl f17_mo rfl hl.1 (Nat.le_of_ble_eq_true rfl) d_M_behind_139 ⟨by first | exact Nat.le_of_ble_eq_true rfl | (dsimp only; omega) | omega, by first | exact Nat.le_of_ble_eq_true rfl | (dsimp only; omega) | omega⟩ rfl (fun r9 h9 H locs hp hw => ?_)
                            obtain ⟨r8, hh29⟩ := hp
                            subst r8
                            obtain ⟨h29, e8⟩ : ∃ x9, x9 = h9 := ⟨_, rfl⟩
                            subst e8
                            have f29_mo : h29 mo = some ((20, 0), .inr (11, mF ma cod tpd (nI n) fls cls9 ffl fcl nds sai ous (nI (((b9 + 1) + 1) + 1)) (nI n))) := by rw [← hh29]; exact z_put_eq
                            have f29_ma_1 : h29 (ma 1) = some ((22, 0), .inl (g.2.1 1, 4000, .inl f)) := by rw [← hh29]; exact z_keep f17_mo f17_ma_1 (z_t1 (by decide))
                            refine W.eq (g2 := F0 m 142 ls []) rfl ?_
                            refine lv_iconst (v := 0) hx hb d_M_behind_142 (by decide) ?_
                            exact z_iret hx hb hr hlocks hw (by unfold escP; rw [show escR t n b9 = .inl (n) by unfold escR; rw [if_neg (fun z => z.elim c_33 (fun z => c_39 z)), if_neg (fun z => z c_47), if_neg zo0, if_pos (show zh (bt t n (b9 + 3)) = -1 by simpa using zn1), if_pos (by simpa using c_128)]]; exact ⟨((b9 + 1) + 1) + 1, by omega, by omega, rfl, by rw [← hh29, ← hh17, ← hh1, z_put_put, z_put_put]⟩) (by decide) (by decide) d_M_behind_143
                  · -- 121: False
                    have zn0 := c_121
                    refine lv_aload_n hx hb d_M_behind_124 rfl (lv_at hl 5 rfl) ?_
                    refine lv_iload hx hb d_M_behind_125 (lv_at hl 1 rfl) ?_
                    refine lv_iconst (v := (-1)) hx hb d_M_behind_127 (by decide) ?_
                    refine lv_icmp_ne (tgt := 138) hx hb d_M_behind_128 (by decide) (fun c_128 => ?_) (fun c_128 => ?_)
                    · -- 128: True
                      refine lv_iload_n hx hb d_M_behind_138 rfl (lv_at hl 6 rfl) ?_
                      refine z_callV (n := 1) (As := [.int (nI b9)]) (rest := []) ⟨hx, hb, hml, hown, hts⟩ (m_fail l g h1 f1_mo) (z_in k_914 rfl) (z_in k_7 rfl) (z_in k_911 rfl) (z_in k_913 rfl) (z_in ks_32 rfl) (by decide +kernel) ⟨by first | exact Nat.le_of_ble_eq_true rfl | (dsimp only; omega) | omega, by first | exact Nat.le_of_ble_eq_true rfl | (dsimp only; omega) | omega⟩ hK hE hw hA rfl f1_mo rfl hl.1 (Nat.le_of_ble_eq_true rfl) d_M_behind_139 ⟨by first | exact Nat.le_of_ble_eq_true rfl | (dsimp only; omega) | omega, by first | exact Nat.le_of_ble_eq_true rfl | (dsimp only; omega) | omega⟩ rfl (fun r9 h9 H locs hp hw => ?_)
                      obtain ⟨r8, hh30⟩ := hp
                      subst r8
                      obtain ⟨h30, e8⟩ : ∃ x9, x9 = h9 := ⟨_, rfl⟩
                      subst e8
                      have f30_mo : h30 mo = some ((20, 0), .inr (11, mF ma cod tpd (nI n) fls cls9 ffl fcl nds sai ous (nI ((b9 + 1) + 1)) (nI b9))) := by rw [← hh30]; exact z_put_eq
                      have f30_ma_1 : h30 (ma 1) = some ((22, 0), .inl (g.2.1 1, 4000, .inl f)) := by rw [← hh30]; exact z_keep f1_mo f1_ma_1 (z_t1 (by decide))
                      refine W.eq (g2 := F0 m 142 ls []) rfl ?_
                      refine lv_iconst (v := 0) hx hb d_M_behind_142 (by decide) ?_
                      exact z_iret hx hb hr hlocks hw (by unfold escP; rw [show escR t n b9 = .inl (b9) by unfold escR; rw [if_neg (fun z => z.elim c_33 (fun z => c_39 z)), if_neg (fun z => z c_47), if_pos (show zh (bt t n (b9 + 2)) = -1 by simpa using zn0), if_neg c_128]]; exact ⟨(b9 + 1) + 1, by omega, by omega, rfl, by rw [← hh30, ← hh1, z_put_put]⟩) (by decide) (by decide) d_M_behind_143
                    · -- 128: False
                      refine lv_aload_n hx hb d_M_behind_131 rfl (lv_at hl 5 rfl) ?_
                      refine z_get hx hb hts (z_lay i_M) hown hK hw f1_mo rfl 4 (by decide) (z_in k_775 rfl) (fun _ h9 => h9) rfl d_M_behind_132 ?_
                      refine lv_goto (tgt := 139) hx hb d_M_behind_135 (by decide) ?_
                      refine z_callV (n := 1) (As := [.int (nI n)]) (rest := []) ⟨hx, hb, hml, hown, hts⟩ (m_fail l g h1 f1_mo) (z_in k_914 rfl) (z_in k_7 rfl) (z_in k_911 rfl) (z_in k_913 rfl) (z_in ks_32 rfl) (by decide +kernel) ⟨by first | exact Nat.le_of_ble_eq_true rfl | (dsimp only; omega) | omega, by first | exact Nat.le_of_ble_eq_true rfl | (dsimp only; omega) | omega⟩ hK hE hw hA rfl f1_mo rfl hl.1 (Nat.le_of_ble_eq_true rfl) d_M_behind_139 ⟨by first | exact Nat.le_of_ble_eq_true rfl | (dsimp only; omega) | omega, by first | exact Nat.le_of_ble_eq_true rfl | (dsimp only; omega) | omega⟩ rfl (fun r9 h9 H locs hp hw => ?_)
                      obtain ⟨r8, hh31⟩ := hp
                      subst r8
                      obtain ⟨h31, e8⟩ : ∃ x9, x9 = h9 := ⟨_, rfl⟩
                      subst e8
                      have f31_mo : h31 mo = some ((20, 0), .inr (11, mF ma cod tpd (nI n) fls cls9 ffl fcl nds sai ous (nI ((b9 + 1) + 1)) (nI n))) := by rw [← hh31]; exact z_put_eq
                      have f31_ma_1 : h31 (ma 1) = some ((22, 0), .inl (g.2.1 1, 4000, .inl f)) := by rw [← hh31]; exact z_keep f1_mo f1_ma_1 (z_t1 (by decide))
                      refine W.eq (g2 := F0 m 142 ls []) rfl ?_
                      refine lv_iconst (v := 0) hx hb d_M_behind_142 (by decide) ?_
                      exact z_iret hx hb hr hlocks hw (by unfold escP; rw [show escR t n b9 = .inl (n) by unfold escR; rw [if_neg (fun z => z.elim c_33 (fun z => c_39 z)), if_neg (fun z => z c_47), if_pos (show zh (bt t n (b9 + 2)) = -1 by simpa using zn0), if_pos (by simpa using c_128)]]; exact ⟨(b9 + 1) + 1, by omega, by omega, rfl, by rw [← hh31, ← hh1, z_put_put]⟩) (by decide) (by decide) d_M_behind_143
                · -- 101: False
                  refine lv_iload hx hb d_M_behind_104 (lv_at hl 0 rfl) ?_
                  refine lv_bipush (v := 97) hx hb d_M_behind_106 (by decide) ?_
                  refine lv_isub hx hb d_M_behind_108 ?_
                  refine lv_bipush (v := 10) hx hb d_M_behind_109 (by decide) ?_
                  refine lv_iadd hx hb d_M_behind_111 ?_
                  refine lv_goto (tgt := 116) hx hb d_M_behind_112 (by decide) ?_
                  refine z_topi (y := zh (bt t n ((b9 + 1) + 1))) (by unfold zh; rw [if_neg (by rw [c_79]; decide), if_pos ⟨Int32.not_lt.mp c_94, Int32.not_lt.mp c_101⟩]) ?_
                  refine lv_istore (lv' := [(6, .int (zh (bt t n ((b9 + 1) + 1)))), (5, .int (bt t n ((b9 + 1) + 1))), (4, .int 0), (3, .int 0), (2, .int (bt t n (b9 + 1))), (0, .ref mo), (1, .int (nI b9))]) hx hb d_M_behind_116 hl (by decide) rfl (fun ls hl => ?_)
                  refine lv_iload hx hb d_M_behind_118 (lv_at hl 0 rfl) ?_
                  refine lv_iconst (v := (-1)) hx hb d_M_behind_120 (by decide) ?_
                  refine lv_icmp_ne (tgt := 144) hx hb d_M_behind_121 (by decide) (fun c_121 => ?_) (fun c_121 => ?_)
                  · -- 121: True
                    have zo0 : ¬ zh (bt t n ((b9 + 1) + 1)) = -1 := c_121
                    have zl0 := (zh_bt (fun k hk => (hf k hk).1) zo0).1
                    refine lv_bipush (v := 16) hx hb d_M_behind_144 (by decide) ?_
                    refine lv_iload_n hx hb d_M_behind_146 rfl (lv_at hl 3 rfl) ?_
                    refine lv_imul hx hb d_M_behind_147 ?_
                    refine z_topi (y := 0) (by decide) ?_
                    refine lv_iload hx hb d_M_behind_148 (lv_at hl 0 rfl) ?_
                    refine lv_iadd hx hb d_M_behind_150 ?_
                    refine lv_istore_n (lv' := [(3, .int (0 + (zh (bt t n ((b9 + 1) + 1))))), (6, .int (zh (bt t n ((b9 + 1) + 1)))), (5, .int (bt t n ((b9 + 1) + 1))), (4, .int 0), (2, .int (bt t n (b9 + 1))), (0, .ref mo), (1, .int (nI b9))]) hx hb d_M_behind_151 rfl hl (by decide) rfl (fun ls hl => ?_)
                    refine lv_aload_n hx hb d_M_behind_152 rfl (lv_at hl 5 rfl) ?_
                    refine lv_dup hx hb d_M_behind_153 rfl ?_
                    refine z_get hx hb hts (z_lay i_M) hown hK hw f1_mo rfl 29 (by decide) (z_in k_800 rfl) (fun _ h9 => h9) rfl d_M_behind_154 ?_
                    refine lv_iconst (v := 1) hx hb d_M_behind_157 (by decide) ?_
                    refine lv_iadd hx hb d_M_behind_158 ?_
                    refine z_topi (y := nI (((b9 + 1) + 1) + 1)) (nI_add ((b9 + 1) + 1) 1) ?_
                    refine z_putf (ty := .int) hx hb hts (z_lay i_M) t_M t_M_ok n_M hown hK hw f1_mo rfl 29 (by decide) (z_in k_800 rfl) (fun _ h9 => h9) rfl (by decide +kernel) rfl rfl (Nat.le_of_ble_eq_true rfl) d_M_behind_159 (fun H locs hw => ?_)
                    obtain ⟨h32, hh32⟩ : ∃ x9, z_put h1 mo (20, 0) (.inr (11, mF ma cod tpd (nI n) fls cls9 ffl fcl nds sai ous (nI (((b9 + 1) + 1) + 1)) (-1))) = x9 := ⟨_, rfl⟩
                    have hw : z_S g A s.heap h32 H locs := by rw [← hh32]; exact hw
                    have f32_mo : h32 mo = some ((20, 0), .inr (11, mF ma cod tpd (nI n) fls cls9 ffl fcl nds sai ous (nI (((b9 + 1) + 1) + 1)) (-1))) := by rw [← hh32]; exact z_put_eq
                    have f32_ma_1 : h32 (ma 1) = some ((22, 0), .inl (g.2.1 1, 4000, .inl f)) := by rw [← hh32]; exact z_keep f1_mo f1_ma_1 (z_t1 (by decide))
                    refine lv_iinc (v := 1) (lv' := [(4, .int 1), (3, .int (0 + (zh (bt t n ((b9 + 1) + 1))))), (6, .int (zh (bt t n ((b9 + 1) + 1)))), (5, .int (bt t n ((b9 + 1) + 1))), (2, .int (bt t n (b9 + 1))), (0, .ref mo), (1, .int (nI b9))]) hx hb d_M_behind_162 hl (k := 3) rfl (by decide) (by decide) rfl (fun ls hl => ?_)
                    refine lv_goto (tgt := 62) hx hb d_M_behind_165 (by decide) ?_
                    refine lv_iload hx hb d_M_behind_62 (lv_at hl 0 rfl) ?_
                    refine lv_iconst (v := 2) hx hb d_M_behind_64 (by decide) ?_
                    refine lv_icmp_ge (tgt := 168) hx hb d_M_behind_65 (by decide) (fun c_65 => ?_) (fun c_65 => ?_)
                    · -- 65: True
                      exact absurd c_65 (by decide)
                    · -- 65: False
                      refine lv_aload_n hx hb d_M_behind_68 rfl (lv_at hl 5 rfl) ?_
                      refine z_callV (n := 0) (As := []) (rest := []) ⟨hx, hb, hml, hown, hts⟩ (m_look (t := t) l g h32 f32_mo f32_ma_1 hn hf (by omega)) (z_in k_889 rfl) (z_in k_7 rfl) (z_in k_886 rfl) (z_in k_888 rfl) (z_in ks_28 rfl) (by decide +kernel) ⟨by first | exact Nat.le_of_ble_eq_true rfl | (dsimp only; omega) | omega, by first | exact Nat.le_of_ble_eq_true rfl | (dsimp only; omega) | omega⟩ hK hE hw hA rfl f32_mo rfl hl.1 (Nat.le_of_ble_eq_true rfl) d_M_behind_69 ⟨by first | exact Nat.le_of_ble_eq_true rfl | (dsimp only; omega) | omega, by first | exact Nat.le_of_ble_eq_true rfl | (dsimp only; omega) | omega⟩ rfl (fun r9 h9 H locs hp hw => ?_)
                      obtain ⟨r8, h8⟩ := hp
                      subst r8
                      subst h8
                      refine W.eq (g2 := F0 m 72 ls [.int (bt t n (((b9 + 1) + 1) + 1))]) rfl ?_
                      refine lv_istore (lv' := [(5, .int (bt t n (((b9 + 1) + 1) + 1))), (4, .int 1), (3, .int (0 + (zh (bt t n ((b9 + 1) + 1))))), (6, .int (zh (bt t n ((b9 + 1) + 1)))), (2, .int (bt t n (b9 + 1))), (0, .ref mo), (1, .int (nI b9))]) hx hb d_M_behind_72 hl (by decide) rfl (fun ls hl => ?_)
                      refine lv_iload hx hb d_M_behind_74 (lv_at hl 0 rfl) ?_
                      refine z_callS (n := 1) (As := [.int (bt t n (((b9 + 1) + 1) + 1))]) (rest := []) ⟨hx, hb, hml, hown, hts⟩ (m_isDigit l g h32) (z_in k_908 rfl) (z_in k_7 rfl) (z_in k_906 rfl) (z_in k_907 rfl) (by decide +kernel) ⟨by first | exact Nat.le_of_ble_eq_true rfl | (dsimp only; omega) | omega, by first | exact Nat.le_of_ble_eq_true rfl | (dsimp only; omega) | omega⟩ hK hE hw hA rfl hl.1 (Nat.le_of_ble_eq_true rfl) d_M_behind_76 ⟨by first | exact Nat.le_of_ble_eq_true rfl | (dsimp only; omega) | omega, by first | exact Nat.le_of_ble_eq_true rfl | (dsimp only; omega) | omega⟩ rfl (fun r9 h9 H locs hp hw => ?_)
                      obtain ⟨r8, h8⟩ := hp
                      subst r8
                      subst h8
                      refine W.eq (g2 := F0 m 79 ls [.int (zb (isDig (bt t n (((b9 + 1) + 1) + 1))))]) rfl ?_
                      refine lv_if_eq (tgt := 90) hx hb d_M_behind_79 (by decide) (fun c_79 => ?_) (fun c_79 => ?_)
                      · -- 79: True
                        have c_79 : (isDig (bt t n (((b9 + 1) + 1) + 1))) = false := zb_f c_79
                        refine lv_iload hx hb d_M_behind_90 (lv_at hl 0 rfl) ?_
                        refine lv_bipush (v := 97) hx hb d_M_behind_92 (by decide) ?_
                        refine lv_icmp_lt (tgt := 115) hx hb d_M_behind_94 (by decide) (fun c_94 => ?_) (fun c_94 => ?_)
                        · -- 94: True
                          refine lv_iconst (v := (-1)) hx hb d_M_behind_115 (by decide) ?_
                          refine z_topi (y := zh (bt t n (((b9 + 1) + 1) + 1))) (by unfold zh; rw [if_neg (by rw [c_79]; decide), if_neg (fun z => absurd z.1 (Int32.not_le.mpr c_94))]) ?_
                          refine lv_istore (lv' := [(6, .int (zh (bt t n (((b9 + 1) + 1) + 1)))), (5, .int (bt t n (((b9 + 1) + 1) + 1))), (4, .int 1), (3, .int (0 + (zh (bt t n ((b9 + 1) + 1))))), (2, .int (bt t n (b9 + 1))), (0, .ref mo), (1, .int (nI b9))]) hx hb d_M_behind_116 hl (by decide) rfl (fun ls hl => ?_)
                          refine lv_iload hx hb d_M_behind_118 (lv_at hl 0 rfl) ?_
                          refine lv_iconst (v := (-1)) hx hb d_M_behind_120 (by decide) ?_
                          refine lv_icmp_ne (tgt := 144) hx hb d_M_behind_121 (by decide) (fun c_121 => ?_) (fun c_121 => ?_)
                          · -- 121: True
                            have zo1 : ¬ zh (bt t n (((b9 + 1) + 1) + 1)) = -1 := c_121
                            have zl1 := (zh_bt (fun k hk => (hf k hk).1) zo1).1
                            refine lv_bipush (v := 16) hx hb d_M_behind_144 (by decide) ?_
                            refine lv_iload_n hx hb d_M_behind_146 rfl (lv_at hl 3 rfl) ?_
                            refine lv_imul hx hb d_M_behind_147 ?_
                            refine lv_iload hx hb d_M_behind_148 (lv_at hl 0 rfl) ?_
                            refine lv_iadd hx hb d_M_behind_150 ?_
                            refine lv_istore_n (lv' := [(3, .int ((16 * (0 + (zh (bt t n ((b9 + 1) + 1))))) + (zh (bt t n (((b9 + 1) + 1) + 1))))), (6, .int (zh (bt t n (((b9 + 1) + 1) + 1)))), (5, .int (bt t n (((b9 + 1) + 1) + 1))), (4, .int 1), (2, .int (bt t n (b9 + 1))), (0, .ref mo), (1, .int (nI b9))]) hx hb d_M_behind_151 rfl hl (by decide) rfl (fun ls hl => ?_)
                            refine lv_aload_n hx hb d_M_behind_152 rfl (lv_at hl 5 rfl) ?_
                            refine lv_dup hx hb d_M_behind_153 rfl ?_
                            refine z_get hx hb hts (z_lay i_M) hown hK hw f32_mo rfl 29 (by decide) (z_in k_800 rfl) (fun _ h9 => h9) rfl d_M_behind_154 ?_
                            refine lv_iconst (v := 1) hx hb d_M_behind_157 (by decide) ?_
                            refine lv_iadd hx hb d_M_behind_158 ?_
                            refine z_topi (y := nI ((((b9 + 1) + 1) + 1) + 1)) (nI_add (((b9 + 1) + 1) + 1) 1) ?_
                            refine z_putf (ty := .int) hx hb hts (z_lay i_M) t_M t_M_ok n_M hown hK hw f32_mo rfl 29 (by decide) (z_in k_800 rfl) (fun _ h9 => h9) rfl (by decide +kernel) rfl rfl (Nat.le_of_ble_eq_true rfl) d_M_behind_159 (fun H locs hw => ?_)
                            obtain ⟨h33, hh33⟩ : ∃ x9, z_put h32 mo (20, 0) (.inr (11, mF ma cod tpd (nI n) fls cls9 ffl fcl nds sai ous (nI ((((b9 + 1) + 1) + 1) + 1)) (-1))) = x9 := ⟨_, rfl⟩
                            have hw : z_S g A s.heap h33 H locs := by rw [← hh33]; exact hw
                            have f33_mo : h33 mo = some ((20, 0), .inr (11, mF ma cod tpd (nI n) fls cls9 ffl fcl nds sai ous (nI ((((b9 + 1) + 1) + 1) + 1)) (-1))) := by rw [← hh33]; exact z_put_eq
                            have f33_ma_1 : h33 (ma 1) = some ((22, 0), .inl (g.2.1 1, 4000, .inl f)) := by rw [← hh33]; exact z_keep f32_mo f32_ma_1 (z_t1 (by decide))
                            refine lv_iinc (v := 2) (lv' := [(4, .int 2), (3, .int ((16 * (0 + (zh (bt t n ((b9 + 1) + 1))))) + (zh (bt t n (((b9 + 1) + 1) + 1))))), (6, .int (zh (bt t n (((b9 + 1) + 1) + 1)))), (5, .int (bt t n (((b9 + 1) + 1) + 1))), (2, .int (bt t n (b9 + 1))), (0, .ref mo), (1, .int (nI b9))]) hx hb d_M_behind_162 hl (k := 3) rfl (by decide) (by decide) rfl (fun ls hl => ?_)
                            refine lv_goto (tgt := 62) hx hb d_M_behind_165 (by decide) ?_
                            refine lv_iload hx hb d_M_behind_62 (lv_at hl 0 rfl) ?_
                            refine lv_iconst (v := 2) hx hb d_M_behind_64 (by decide) ?_
                            refine lv_icmp_ge (tgt := 168) hx hb d_M_behind_65 (by decide) (fun c_65 => ?_) (fun c_65 => ?_)
                            · -- 65: True
                              refine lv_iload_n hx hb d_M_behind_168 rfl (lv_at hl 1 rfl) ?_
                              exact z_iret hx hb hr hlocks hw (by unfold escP; rw [show escR t n b9 = .inr (zh (bt t n (b9 + 2)) * 16 + zh (bt t n (b9 + 3)), b9 + 4) by unfold escR; rw [if_neg (fun z => z.elim c_33 (fun z => c_39 z)), if_neg (fun z => z c_47), if_neg zo0, if_neg zo1]]; refine ⟨congrArg some (congrArg Value.int ?_), by rw [← hh33, ← hh32, ← hh1, z_put_put, z_put_put]⟩; show _ = zh (bt t n (b9 + 2)) * 16 + zh (bt t n (b9 + 3)); rw [Int32.mul_comm _ 16]; congr 1; congr 1; exact Int32.zero_add _) (by decide) (by decide) d_M_behind_169
                            · -- 65: False
                              exact absurd (by decide) c_65
                          · -- 121: False
                            have zn1 := c_121
                            refine lv_aload_n hx hb d_M_behind_124 rfl (lv_at hl 5 rfl) ?_
                            refine lv_iload hx hb d_M_behind_125 (lv_at hl 1 rfl) ?_
                            refine lv_iconst (v := (-1)) hx hb d_M_behind_127 (by decide) ?_
                            refine lv_icmp_ne (tgt := 138) hx hb d_M_behind_128 (by decide) (fun c_128 => ?_) (fun c_128 => ?_)
                            · -- 128: True
                              refine lv_iload_n hx hb d_M_behind_138 rfl (lv_at hl 6 rfl) ?_
                              refine z_callV (n := 1) (As := [.int (nI b9)]) (rest := []) ⟨hx, hb, hml, hown, hts⟩ (m_fail l g h32 f32_mo) (z_in k_914 rfl) (z_in k_7 rfl) (z_in k_911 rfl) (z_in k_913 rfl) (z_in ks_32 rfl) (by decide +kernel) ⟨by first | exact Nat.le_of_ble_eq_true rfl | (dsimp only; omega) | omega, by first | exact Nat.le_of_ble_eq_true rfl | (dsimp only; omega) | omega⟩ hK hE hw hA rfl f32_mo rfl hl.1 (Nat.le_of_ble_eq_true rfl) d_M_behind_139 ⟨by first | exact Nat.le_of_ble_eq_true rfl | (dsimp only; omega) | omega, by first | exact Nat.le_of_ble_eq_true rfl | (dsimp only; omega) | omega⟩ rfl (fun r9 h9 H locs hp hw => ?_)
                              obtain ⟨r8, hh34⟩ := hp
                              subst r8
                              obtain ⟨h34, e8⟩ : ∃ x9, x9 = h9 := ⟨_, rfl⟩
                              subst e8
                              have f34_mo : h34 mo = some ((20, 0), .inr (11, mF ma cod tpd (nI n) fls cls9 ffl fcl nds sai ous (nI (((b9 + 1) + 1) + 1)) (nI b9))) := by rw [← hh34]; exact z_put_eq
                              have f34_ma_1 : h34 (ma 1) = some ((22, 0), .inl (g.2.1 1, 4000, .inl f)) := by rw [← hh34]; exact z_keep f32_mo f32_ma_1 (z_t1 (by decide))
                              refine W.eq (g2 := F0 m 142 ls []) rfl ?_
                              refine lv_iconst (v := 0) hx hb d_M_behind_142 (by decide) ?_
                              exact z_iret hx hb hr hlocks hw (by unfold escP; rw [show escR t n b9 = .inl (b9) by unfold escR; rw [if_neg (fun z => z.elim c_33 (fun z => c_39 z)), if_neg (fun z => z c_47), if_neg zo0, if_pos (show zh (bt t n (b9 + 3)) = -1 by simpa using zn1), if_neg c_128]]; exact ⟨((b9 + 1) + 1) + 1, by omega, by omega, rfl, by rw [← hh34, ← hh32, ← hh1, z_put_put, z_put_put]⟩) (by decide) (by decide) d_M_behind_143
                            · -- 128: False
                              refine lv_aload_n hx hb d_M_behind_131 rfl (lv_at hl 5 rfl) ?_
                              refine z_get hx hb hts (z_lay i_M) hown hK hw f32_mo rfl 4 (by decide) (z_in k_775 rfl) (fun _ h9 => h9) rfl d_M_behind_132 ?_
                              refine lv_goto (tgt := 139) hx hb d_M_behind_135 (by decide) ?_
                              refine z_callV (n := 1) (As := [.int (nI n)]) (rest := []) ⟨hx, hb, hml, hown, hts⟩ (m_fail l g h32 f32_mo) (z_in k_914 rfl) (z_in k_7 rfl) (z_in k_911 rfl) (z_in k_913 rfl) (z_in ks_32 rfl) (by decide +kernel) ⟨by first | exact Nat.le_of_ble_eq_true rfl | (dsimp only; omega) | omega, by first | exact Nat.le_of_ble_eq_true rfl | (dsimp only; omega) | omega⟩ hK hE hw hA rfl f32_mo rfl hl.1 (Nat.le_of_ble_eq_true rfl) d_M_behind_139 ⟨by first | exact Nat.le_of_ble_eq_true rfl | (dsimp only; omega) | omega, by first | exact Nat.le_of_ble_eq_true rfl | (dsimp only; omega) | omega⟩ rfl (fun r9 h9 H locs hp hw => ?_)
                              obtain ⟨r8, hh35⟩ := hp
                              subst r8
                              obtain ⟨h35, e8⟩ : ∃ x9, x9 = h9 := ⟨_, rfl⟩
                              subst e8
                              have f35_mo : h35 mo = some ((20, 0), .inr (11, mF ma cod tpd (nI n) fls cls9 ffl fcl nds sai ous (nI (((b9 + 1) + 1) + 1)) (nI n))) := by rw [← hh35]; exact z_put_eq
                              have f35_ma_1 : h35 (ma 1) = some ((22, 0), .inl (g.2.1 1, 4000, .inl f)) := by rw [← hh35]; exact z_keep f32_mo f32_ma_1 (z_t1 (by decide))
                              refine W.eq (g2 := F0 m 142 ls []) rfl ?_
                              refine lv_iconst (v := 0) hx hb d_M_behind_142 (by decide) ?_
                              exact z_iret hx hb hr hlocks hw (by unfold escP; rw [show escR t n b9 = .inl (n) by unfold escR; rw [if_neg (fun z => z.elim c_33 (fun z => c_39 z)), if_neg (fun z => z c_47), if_neg zo0, if_pos (show zh (bt t n (b9 + 3)) = -1 by simpa using zn1), if_pos (by simpa using c_128)]]; exact ⟨((b9 + 1) + 1) + 1, by omega, by omega, rfl, by rw [← hh35, ← hh32, ← hh1, z_put_put, z_put_put]⟩) (by decide) (by decide) d_M_behind_143
                        · -- 94: False
                          refine lv_iload hx hb d_M_behind_97 (lv_at hl 0 rfl) ?_
                          refine lv_bipush (v := 102) hx hb d_M_behind_99 (by decide) ?_
                          refine lv_icmp_gt (tgt := 115) hx hb d_M_behind_101 (by decide) (fun c_101 => ?_) (fun c_101 => ?_)
                          · -- 101: True
                            refine lv_iconst (v := (-1)) hx hb d_M_behind_115 (by decide) ?_
                            refine z_topi (y := zh (bt t n (((b9 + 1) + 1) + 1))) (by unfold zh; rw [if_neg (by rw [c_79]; decide), if_neg (fun z => absurd z.2 (Int32.not_le.mpr c_101))]) ?_
                            refine lv_istore (lv' := [(6, .int (zh (bt t n (((b9 + 1) + 1) + 1)))), (5, .int (bt t n (((b9 + 1) + 1) + 1))), (4, .int 1), (3, .int (0 + (zh (bt t n ((b9 + 1) + 1))))), (2, .int (bt t n (b9 + 1))), (0, .ref mo), (1, .int (nI b9))]) hx hb d_M_behind_116 hl (by decide) rfl (fun ls hl => ?_)
                            refine lv_iload hx hb d_M_behind_118 (lv_at hl 0 rfl) ?_
                            refine lv_iconst (v := (-1)) hx hb d_M_behind_120 (by decide) ?_
                            refine lv_icmp_ne (tgt := 144) hx hb d_M_behind_121 (by decide) (fun c_121 => ?_) (fun c_121 => ?_)
                            · -- 121: True
                              have zo1 : ¬ zh (bt t n (((b9 + 1) + 1) + 1)) = -1 := c_121
                              have zl1 := (zh_bt (fun k hk => (hf k hk).1) zo1).1
                              refine lv_bipush (v := 16) hx hb d_M_behind_144 (by decide) ?_
                              refine lv_iload_n hx hb d_M_behind_146 rfl (lv_at hl 3 rfl) ?_
                              refine lv_imul hx hb d_M_behind_147 ?_
                              refine lv_iload hx hb d_M_behind_148 (lv_at hl 0 rfl) ?_
                              refine lv_iadd hx hb d_M_behind_150 ?_
                              refine lv_istore_n (lv' := [(3, .int ((16 * (0 + (zh (bt t n ((b9 + 1) + 1))))) + (zh (bt t n (((b9 + 1) + 1) + 1))))), (6, .int (zh (bt t n (((b9 + 1) + 1) + 1)))), (5, .int (bt t n (((b9 + 1) + 1) + 1))), (4, .int 1), (2, .int (bt t n (b9 + 1))), (0, .ref mo), (1, .int (nI b9))]) hx hb d_M_behind_151 rfl hl (by decide) rfl (fun ls hl => ?_)
                              refine lv_aload_n hx hb d_M_behind_152 rfl (lv_at hl 5 rfl) ?_
                              refine lv_dup hx hb d_M_behind_153 rfl ?_
                              refine z_get hx hb hts (z_lay i_M) hown hK hw f32_mo rfl 29 (by decide) (z_in k_800 rfl) (fun _ h9 => h9) rfl d_M_behind_154 ?_
                              refine lv_iconst (v := 1) hx hb d_M_behind_157 (by decide) ?_
                              refine lv_iadd hx hb d_M_behind_158 ?_
                              refine z_topi (y := nI ((((b9 + 1) + 1) + 1) + 1)) (nI_add (((b9 + 1) + 1) + 1) 1) ?_
                              refine z_putf (ty := .int) hx hb hts (z_lay i_M) t_M t_M_ok n_M hown hK hw f32_mo rfl 29 (by decide) (z_in k_800 rfl) (fun _ h9 => h9) rfl (by decide +kernel) rfl rfl (Nat.le_of_ble_eq_true rfl) d_M_behind_159 (fun H locs hw => ?_)
                              obtain ⟨h36, hh36⟩ : ∃ x9, z_put h32 mo (20, 0) (.inr (11, mF ma cod tpd (nI n) fls cls9 ffl fcl nds sai ous (nI ((((b9 + 1) + 1) + 1) + 1)) (-1))) = x9 := ⟨_, rfl⟩
                              have hw : z_S g A s.heap h36 H locs := by rw [← hh36]; exact hw
                              have f36_mo : h36 mo = some ((20, 0), .inr (11, mF ma cod tpd (nI n) fls cls9 ffl fcl nds sai ous (nI ((((b9 + 1) + 1) + 1) + 1)) (-1))) := by rw [← hh36]; exact z_put_eq
                              have f36_ma_1 : h36 (ma 1) = some ((22, 0), .inl (g.2.1 1, 4000, .inl f)) := by rw [← hh36]; exact z_keep f32_mo f32_ma_1 (z_t1 (by decide))
                              refine lv_iinc (v := 2) (lv' := [(4, .int 2), (3, .int ((16 * (0 + (zh (bt t n ((b9 + 1) + 1))))) + (zh (bt t n (((b9 + 1) + 1) + 1))))), (6, .int (zh (bt t n (((b9 + 1) + 1) + 1)))), (5, .int (bt t n (((b9 + 1) + 1) + 1))), (2, .int (bt t n (b9 + 1))), (0, .ref mo), (1, .int (nI b9))]) hx hb d_M_behind_162 hl (k := 3) rfl (by decide) (by decide) rfl (fun ls hl => ?_)
                              refine lv_goto (tgt := 62) hx hb d_M_behind_165 (by decide) ?_
                              refine lv_iload hx hb d_M_behind_62 (lv_at hl 0 rfl) ?_
                              refine lv_iconst (v := 2) hx hb d_M_behind_64 (by decide) ?_
                              refine lv_icmp_ge (tgt := 168) hx hb d_M_behind_65 (by decide) (fun c_65 => ?_) (fun c_65 => ?_)
                              · -- 65: True
                                refine lv_iload_n hx hb d_M_behind_168 rfl (lv_at hl 1 rfl) ?_
                                exact z_iret hx hb hr hlocks hw (by unfold escP; rw [show escR t n b9 = .inr (zh (bt t n (b9 + 2)) * 16 + zh (bt t n (b9 + 3)), b9 + 4) by unfold escR; rw [if_neg (fun z => z.elim c_33 (fun z => c_39 z)), if_neg (fun z => z c_47), if_neg zo0, if_neg zo1]]; refine ⟨congrArg some (congrArg Value.int ?_), by rw [← hh36, ← hh32, ← hh1, z_put_put, z_put_put]⟩; show _ = zh (bt t n (b9 + 2)) * 16 + zh (bt t n (b9 + 3)); rw [Int32.mul_comm _ 16]; congr 1; congr 1; exact Int32.zero_add _) (by decide) (by decide) d_M_behind_169
                              · -- 65: False
                                exact absurd (by decide) c_65
                            · -- 121: False
                              have zn1 := c_121
                              refine lv_aload_n hx hb d_M_behind_124 rfl (lv_at hl 5 rfl) ?_
                              refine lv_iload hx hb d_M_behind_125 (lv_at hl 1 rfl) ?_
                              refine lv_iconst (v := (-1)) hx hb d_M_behind_127 (by decide) ?_
                              refine lv_icmp_ne (tgt := 138) hx hb d_M_behind_128 (by decide) (fun c_128 => ?_) (fun c_128 => ?_)
                              · -- 128: True
                                refine lv_iload_n hx hb d_M_behind_138 rfl (lv_at hl 6 rfl) ?_
                                refine z_callV (n := 1) (As := [.int (nI b9)]) (rest := []) ⟨hx, hb, hml, hown, hts⟩ (m_fail l g h32 f32_mo) (z_in k_914 rfl) (z_in k_7 rfl) (z_in k_911 rfl) (z_in k_913 rfl) (z_in ks_32 rfl) (by decide +kernel) ⟨by first | exact Nat.le_of_ble_eq_true rfl | (dsimp only; omega) | omega, by first | exact Nat.le_of_ble_eq_true rfl | (dsimp only; omega) | omega⟩ hK hE hw hA rfl f32_mo rfl hl.1 (Nat.le_of_ble_eq_true rfl) d_M_behind_139 ⟨by first | exact Nat.le_of_ble_eq_true rfl | (dsimp only; omega) | omega, by first | exact Nat.le_of_ble_eq_true rfl | (dsimp only; omega) | omega⟩ rfl (fun r9 h9 H locs hp hw => ?_)
                                obtain ⟨r8, hh37⟩ := hp
                                subst r8
                                obtain ⟨h37, e8⟩ : ∃ x9, x9 = h9 := ⟨_, rfl⟩
                                subst e8
                                have f37_mo : h37 mo = some ((20, 0), .inr (11, mF ma cod tpd (nI n) fls cls9 ffl fcl nds sai ous (nI (((b9 + 1) + 1) + 1)) (nI b9))) := by rw [← hh37]; exact z_put_eq
                                have f37_ma_1 : h37 (ma 1) = some ((22, 0), .inl (g.2.1 1, 4000, .inl f)) := by rw [← hh37]; exact z_keep f32_mo f32_ma_1 (z_t1 (by decide))
                                refine W.eq (g2 := F0 m 142 ls []) rfl ?_
                                refine lv_iconst (v := 0) hx hb d_M_behind_142 (by decide) ?_
                                exact z_iret hx hb hr hlocks hw (by unfold escP; rw [show escR t n b9 = .inl (b9) by unfold escR; rw [if_neg (fun z => z.elim c_33 (fun z => c_39 z)), if_neg (fun z => z c_47), if_neg zo0, if_pos (show zh (bt t n (b9 + 3)) = -1 by simpa using zn1), if_neg c_128]]; exact ⟨((b9 + 1) + 1) + 1, by omega, by omega, rfl, by rw [← hh37, ← hh32, ← hh1, z_put_put, z_put_put]⟩) (by decide) (by decide) d_M_behind_143
                              · -- 128: False
                                refine lv_aload_n hx hb d_M_behind_131 rfl (lv_at hl 5 rfl) ?_
                                refine z_get hx hb hts (z_lay i_M) hown hK hw f32_mo rfl 4 (by decide) (z_in k_775 rfl) (fun _ h9 => h9) rfl d_M_behind_132 ?_
                                refine lv_goto (tgt := 139) hx hb d_M_behind_135 (by decide) ?_
                                refine z_callV (n := 1) (As := [.int (nI n)]) (rest := []) ⟨hx, hb, hml, hown, hts⟩ (m_fail l g h32 f32_mo) (z_in k_914 rfl) (z_in k_7 rfl) (z_in k_911 rfl) (z_in k_913 rfl) (z_in ks_32 rfl) (by decide +kernel) ⟨by first | exact Nat.le_of_ble_eq_true rfl | (dsimp only; omega) | omega, by first | exact Nat.le_of_ble_eq_true rfl | (dsimp only; omega) | omega⟩ hK hE hw hA rfl f32_mo rfl hl.1 (Nat.le_of_ble_eq_true rfl) d_M_behind_139 ⟨by first | exact Nat.le_of_ble_eq_true rfl | (dsimp only; omega) | omega, by first | exact Nat.le_of_ble_eq_true rfl | (dsimp only; omega) | omega⟩ rfl (fun r9 h9 H locs hp hw => ?_)
                                obtain ⟨r8, hh38⟩ := hp
                                subst r8
                                obtain ⟨h38, e8⟩ : ∃ x9, x9 = h9 := ⟨_, rfl⟩
                                subst e8
                                have f38_mo : h38 mo = some ((20, 0), .inr (11, mF ma cod tpd (nI n) fls cls9 ffl fcl nds sai ous (nI (((b9 + 1) + 1) + 1)) (nI n))) := by rw [← hh38]; exact z_put_eq
                                have f38_ma_1 : h38 (ma 1) = some ((22, 0), .inl (g.2.1 1, 4000, .inl f)) := by rw [← hh38]; exact z_keep f32_mo f32_ma_1 (z_t1 (by decide))
                                refine W.eq (g2 := F0 m 142 ls []) rfl ?_
                                refine lv_iconst (v := 0) hx hb d_M_behind_142 (by decide) ?_
                                exact z_iret hx hb hr hlocks hw (by unfold escP; rw [show escR t n b9 = .inl (n) by unfold escR; rw [if_neg (fun z => z.elim c_33 (fun z => c_39 z)), if_neg (fun z => z c_47), if_neg zo0, if_pos (show zh (bt t n (b9 + 3)) = -1 by simpa using zn1), if_pos (by simpa using c_128)]]; exact ⟨((b9 + 1) + 1) + 1, by omega, by omega, rfl, by rw [← hh38, ← hh32, ← hh1, z_put_put, z_put_put]⟩) (by decide) (by decide) d_M_behind_143
                          · -- 101: False
                            refine lv_iload hx hb d_M_behind_104 (lv_at hl 0 rfl) ?_
                            refine lv_bipush (v := 97) hx hb d_M_behind_106 (by decide) ?_
                            refine lv_isub hx hb d_M_behind_108 ?_
                            refine lv_bipush (v := 10) hx hb d_M_behind_109 (by decide) ?_
                            refine lv_iadd hx hb d_M_behind_111 ?_
                            refine lv_goto (tgt := 116) hx hb d_M_behind_112 (by decide) ?_
                            refine z_topi (y := zh (bt t n (((b9 + 1) + 1) + 1))) (by unfold zh; rw [if_neg (by rw [c_79]; decide), if_pos ⟨Int32.not_lt.mp c_94, Int32.not_lt.mp c_101⟩]) ?_
                            refine lv_istore (lv' := [(6, .int (zh (bt t n (((b9 + 1) + 1) + 1)))), (5, .int (bt t n (((b9 + 1) + 1) + 1))), (4, .int 1), (3, .int (0 + (zh (bt t n ((b9 + 1) + 1))))), (2, .int (bt t n (b9 + 1))), (0, .ref mo), (1, .int (nI b9))]) hx hb d_M_behind_116 hl (by decide) rfl (fun ls hl => ?_)
                            refine lv_iload hx hb d_M_behind_118 (lv_at hl 0 rfl) ?_
                            refine lv_iconst (v := (-1)) hx hb d_M_behind_120 (by decide) ?_
                            refine lv_icmp_ne (tgt := 144) hx hb d_M_behind_121 (by decide) (fun c_121 => ?_) (fun c_121 => ?_)
                            · -- 121: True
                              have zo1 : ¬ zh (bt t n (((b9 + 1) + 1) + 1)) = -1 := c_121
                              have zl1 := (zh_bt (fun k hk => (hf k hk).1) zo1).1
                              refine lv_bipush (v := 16) hx hb d_M_behind_144 (by decide) ?_
                              refine lv_iload_n hx hb d_M_behind_146 rfl (lv_at hl 3 rfl) ?_
                              refine lv_imul hx hb d_M_behind_147 ?_
                              refine lv_iload hx hb d_M_behind_148 (lv_at hl 0 rfl) ?_
                              refine lv_iadd hx hb d_M_behind_150 ?_
                              refine lv_istore_n (lv' := [(3, .int ((16 * (0 + (zh (bt t n ((b9 + 1) + 1))))) + (zh (bt t n (((b9 + 1) + 1) + 1))))), (6, .int (zh (bt t n (((b9 + 1) + 1) + 1)))), (5, .int (bt t n (((b9 + 1) + 1) + 1))), (4, .int 1), (2, .int (bt t n (b9 + 1))), (0, .ref mo), (1, .int (nI b9))]) hx hb d_M_behind_151 rfl hl (by decide) rfl (fun ls hl => ?_)
                              refine lv_aload_n hx hb d_M_behind_152 rfl (lv_at hl 5 rfl) ?_
                              refine lv_dup hx hb d_M_behind_153 rfl ?_
                              refine z_get hx hb hts (z_lay i_M) hown hK hw f32_mo rfl 29 (by decide) (z_in k_800 rfl) (fun _ h9 => h9) rfl d_M_behind_154 ?_
                              refine lv_iconst (v := 1) hx hb d_M_behind_157 (by decide) ?_
                              refine lv_iadd hx hb d_M_behind_158 ?_
                              refine z_topi (y := nI ((((b9 + 1) + 1) + 1) + 1)) (nI_add (((b9 + 1) + 1) + 1) 1) ?_
                              refine z_putf (ty := .int) hx hb hts (z_lay i_M) t_M t_M_ok n_M hown hK hw f32_mo rfl 29 (by decide) (z_in k_800 rfl) (fun _ h9 => h9) rfl (by decide +kernel) rfl rfl (Nat.le_of_ble_eq_true rfl) d_M_behind_159 (fun H locs hw => ?_)
                              obtain ⟨h39, hh39⟩ : ∃ x9, z_put h32 mo (20, 0) (.inr (11, mF ma cod tpd (nI n) fls cls9 ffl fcl nds sai ous (nI ((((b9 + 1) + 1) + 1) + 1)) (-1))) = x9 := ⟨_, rfl⟩
                              have hw : z_S g A s.heap h39 H locs := by rw [← hh39]; exact hw
                              have f39_mo : h39 mo = some ((20, 0), .inr (11, mF ma cod tpd (nI n) fls cls9 ffl fcl nds sai ous (nI ((((b9 + 1) + 1) + 1) + 1)) (-1))) := by rw [← hh39]; exact z_put_eq
                              have f39_ma_1 : h39 (ma 1) = some ((22, 0), .inl (g.2.1 1, 4000, .inl f)) := by rw [← hh39]; exact z_keep f32_mo f32_ma_1 (z_t1 (by decide))
                              refine lv_iinc (v := 2) (lv' := [(4, .int 2), (3, .int ((16 * (0 + (zh (bt t n ((b9 + 1) + 1))))) + (zh (bt t n (((b9 + 1) + 1) + 1))))), (6, .int (zh (bt t n (((b9 + 1) + 1) + 1)))), (5, .int (bt t n (((b9 + 1) + 1) + 1))), (2, .int (bt t n (b9 + 1))), (0, .ref mo), (1, .int (nI b9))]) hx hb d_M_behind_162 hl (k := 3) rfl (by decide) (by decide) rfl (fun ls hl => ?_)
                              refine lv_goto (tgt := 62) hx hb d_M_behind_165 (by decide) ?_
                              refine lv_iload hx hb d_M_behind_62 (lv_at hl 0 rfl) ?_
                              refine lv_iconst (v := 2) hx hb d_M_behind_64 (by decide) ?_
                              refine lv_icmp_ge (tgt := 168) hx hb d_M_behind_65 (by decide) (fun c_65 => ?_) (fun c_65 => ?_)
                              · -- 65: True
                                refine lv_iload_n hx hb d_M_behind_168 rfl (lv_at hl 1 rfl) ?_
                                exact z_iret hx hb hr hlocks hw (by unfold escP; rw [show escR t n b9 = .inr (zh (bt t n (b9 + 2)) * 16 + zh (bt t n (b9 + 3)), b9 + 4) by unfold escR; rw [if_neg (fun z => z.elim c_33 (fun z => c_39 z)), if_neg (fun z => z c_47), if_neg zo0, if_neg zo1]]; refine ⟨congrArg some (congrArg Value.int ?_), by rw [← hh39, ← hh32, ← hh1, z_put_put, z_put_put]⟩; show _ = zh (bt t n (b9 + 2)) * 16 + zh (bt t n (b9 + 3)); rw [Int32.mul_comm _ 16]; congr 1; congr 1; exact Int32.zero_add _) (by decide) (by decide) d_M_behind_169
                              · -- 65: False
                                exact absurd (by decide) c_65
                            · -- 121: False
                              have zn1 := c_121
                              refine lv_aload_n hx hb d_M_behind_124 rfl (lv_at hl 5 rfl) ?_
                              refine lv_iload hx hb d_M_behind_125 (lv_at hl 1 rfl) ?_
                              refine lv_iconst (v := (-1)) hx hb d_M_behind_127 (by decide) ?_
                              refine lv_icmp_ne (tgt := 138) hx hb d_M_behind_128 (by decide) (fun c_128 => ?_) (fun c_128 => ?_)
                              · -- 128: True
                                refine lv_iload_n hx hb d_M_behind_138 rfl (lv_at hl 6 rfl) ?_
                                refine z_callV (n := 1) (As := [.int (nI b9)]) (rest := []) ⟨hx, hb, hml, hown, hts⟩ (m_fail l g h32 f32_mo) (z_in k_914 rfl) (z_in k_7 rfl) (z_in k_911 rfl) (z_in k_913 rfl) (z_in ks_32 rfl) (by decide +kernel) ⟨by first | exact Nat.le_of_ble_eq_true rfl | (dsimp only; omega) | omega, by first | exact Nat.le_of_ble_eq_true rfl | (dsimp only; omega) | omega⟩ hK hE hw hA rfl f32_mo rfl hl.1 (Nat.le_of_ble_eq_true rfl) d_M_behind_139 ⟨by first | exact Nat.le_of_ble_eq_true rfl | (dsimp only; omega) | omega, by first | exact Nat.le_of_ble_eq_true rfl | (dsimp only; omega) | omega⟩ rfl (fun r9 h9 H locs hp hw => ?_)
                                obtain ⟨r8, hh40⟩ := hp
                                subst r8
                                obtain ⟨h40, e8⟩ : ∃ x9, x9 = h9 := ⟨_, rfl⟩
                                subst e8
                                have f40_mo : h40 mo = some ((20, 0), .inr (11, mF ma cod tpd (nI n) fls cls9 ffl fcl nds sai ous (nI (((b9 + 1) + 1) + 1)) (nI b9))) := by rw [← hh40]; exact z_put_eq
                                have f40_ma_1 : h40 (ma 1) = some ((22, 0), .inl (g.2.1 1, 4000, .inl f)) := by rw [← hh40]; exact z_keep f32_mo f32_ma_1 (z_t1 (by decide))
                                refine W.eq (g2 := F0 m 142 ls []) rfl ?_
                                refine lv_iconst (v := 0) hx hb d_M_behind_142 (by decide) ?_
                                exact z_iret hx hb hr hlocks hw (by unfold escP; rw [show escR t n b9 = .inl (b9) by unfold escR; rw [if_neg (fun z => z.elim c_33 (fun z => c_39 z)), if_neg (fun z => z c_47), if_neg zo0, if_pos (show zh (bt t n (b9 + 3)) = -1 by simpa using zn1), if_neg c_128]]; exact ⟨((b9 + 1) + 1) + 1, by omega, by omega, rfl, by rw [← hh40, ← hh32, ← hh1, z_put_put, z_put_put]⟩) (by decide) (by decide) d_M_behind_143
                              · -- 128: False
                                refine lv_aload_n hx hb d_M_behind_131 rfl (lv_at hl 5 rfl) ?_
                                refine z_get hx hb hts (z_lay i_M) hown hK hw f32_mo rfl 4 (by decide) (z_in k_775 rfl) (fun _ h9 => h9) rfl d_M_behind_132 ?_
                                refine lv_goto (tgt := 139) hx hb d_M_behind_135 (by decide) ?_
                                refine z_callV (n := 1) (As := [.int (nI n)]) (rest := []) ⟨hx, hb, hml, hown, hts⟩ (m_fail l g h32 f32_mo) (z_in k_914 rfl) (z_in k_7 rfl) (z_in k_911 rfl) (z_in k_913 rfl) (z_in ks_32 rfl) (by decide +kernel) ⟨by first | exact Nat.le_of_ble_eq_true rfl | (dsimp only; omega) | omega, by first | exact Nat.le_of_ble_eq_true rfl | (dsimp only; omega) | omega⟩ hK hE hw hA rfl f32_mo rfl hl.1 (Nat.le_of_ble_eq_true rfl) d_M_behind_139 ⟨by first | exact Nat.le_of_ble_eq_true rfl | (dsimp only; omega) | omega, by first | exact Nat.le_of_ble_eq_true rfl | (dsimp only; omega) | omega⟩ rfl (fun r9 h9 H locs hp hw => ?_)
                                obtain ⟨r8, hh41⟩ := hp
                                subst r8
                                obtain ⟨h41, e8⟩ : ∃ x9, x9 = h9 := ⟨_, rfl⟩
                                subst e8
                                have f41_mo : h41 mo = some ((20, 0), .inr (11, mF ma cod tpd (nI n) fls cls9 ffl fcl nds sai ous (nI (((b9 + 1) + 1) + 1)) (nI n))) := by rw [← hh41]; exact z_put_eq
                                have f41_ma_1 : h41 (ma 1) = some ((22, 0), .inl (g.2.1 1, 4000, .inl f)) := by rw [← hh41]; exact z_keep f32_mo f32_ma_1 (z_t1 (by decide))
                                refine W.eq (g2 := F0 m 142 ls []) rfl ?_
                                refine lv_iconst (v := 0) hx hb d_M_behind_142 (by decide) ?_
                                exact z_iret hx hb hr hlocks hw (by unfold escP; rw [show escR t n b9 = .inl (n) by unfold escR; rw [if_neg (fun z => z.elim c_33 (fun z => c_39 z)), if_neg (fun z => z c_47), if_neg zo0, if_pos (show zh (bt t n (b9 + 3)) = -1 by simpa using zn1), if_pos (by simpa using c_128)]]; exact ⟨((b9 + 1) + 1) + 1, by omega, by omega, rfl, by rw [← hh41, ← hh32, ← hh1, z_put_put, z_put_put]⟩) (by decide) (by decide) d_M_behind_143
                      · -- 79: False
                        have c_79 : (isDig (bt t n (((b9 + 1) + 1) + 1))) = true := zb_t c_79
                        refine lv_iload hx hb d_M_behind_82 (lv_at hl 0 rfl) ?_
                        refine lv_bipush (v := 48) hx hb d_M_behind_84 (by decide) ?_
                        refine lv_isub hx hb d_M_behind_86 ?_
                        refine lv_goto (tgt := 116) hx hb d_M_behind_87 (by decide) ?_
                        refine z_topi (y := zh (bt t n (((b9 + 1) + 1) + 1))) (by unfold zh; rw [if_pos c_79]) ?_
                        refine lv_istore (lv' := [(6, .int (zh (bt t n (((b9 + 1) + 1) + 1)))), (5, .int (bt t n (((b9 + 1) + 1) + 1))), (4, .int 1), (3, .int (0 + (zh (bt t n ((b9 + 1) + 1))))), (2, .int (bt t n (b9 + 1))), (0, .ref mo), (1, .int (nI b9))]) hx hb d_M_behind_116 hl (by decide) rfl (fun ls hl => ?_)
                        refine lv_iload hx hb d_M_behind_118 (lv_at hl 0 rfl) ?_
                        refine lv_iconst (v := (-1)) hx hb d_M_behind_120 (by decide) ?_
                        refine lv_icmp_ne (tgt := 144) hx hb d_M_behind_121 (by decide) (fun c_121 => ?_) (fun c_121 => ?_)
                        · -- 121: True
                          have zo1 : ¬ zh (bt t n (((b9 + 1) + 1) + 1)) = -1 := c_121
                          have zl1 := (zh_bt (fun k hk => (hf k hk).1) zo1).1
                          refine lv_bipush (v := 16) hx hb d_M_behind_144 (by decide) ?_
                          refine lv_iload_n hx hb d_M_behind_146 rfl (lv_at hl 3 rfl) ?_
                          refine lv_imul hx hb d_M_behind_147 ?_
                          refine lv_iload hx hb d_M_behind_148 (lv_at hl 0 rfl) ?_
                          refine lv_iadd hx hb d_M_behind_150 ?_
                          refine lv_istore_n (lv' := [(3, .int ((16 * (0 + (zh (bt t n ((b9 + 1) + 1))))) + (zh (bt t n (((b9 + 1) + 1) + 1))))), (6, .int (zh (bt t n (((b9 + 1) + 1) + 1)))), (5, .int (bt t n (((b9 + 1) + 1) + 1))), (4, .int 1), (2, .int (bt t n (b9 + 1))), (0, .ref mo), (1, .int (nI b9))]) hx hb d_M_behind_151 rfl hl (by decide) rfl (fun ls hl => ?_)
                          refine lv_aload_n hx hb d_M_behind_152 rfl (lv_at hl 5 rfl) ?_
                          refine lv_dup hx hb d_M_behind_153 rfl ?_
                          refine z_get hx hb hts (z_lay i_M) hown hK hw f32_mo rfl 29 (by decide) (z_in k_800 rfl) (fun _ h9 => h9) rfl d_M_behind_154 ?_
                          refine lv_iconst (v := 1) hx hb d_M_behind_157 (by decide) ?_
                          refine lv_iadd hx hb d_M_behind_158 ?_
                          refine z_topi (y := nI ((((b9 + 1) + 1) + 1) + 1)) (nI_add (((b9 + 1) + 1) + 1) 1) ?_
                          refine z_putf (ty := .int) hx hb hts (z_lay i_M) t_M t_M_ok n_M hown hK hw f32_mo rfl 29 (by decide) (z_in k_800 rfl) (fun _ h9 => h9) rfl (by decide +kernel) rfl rfl (Nat.le_of_ble_eq_true rfl) d_M_behind_159 (fun H locs hw => ?_)
                          obtain ⟨h42, hh42⟩ : ∃ x9, z_put h32 mo (20, 0) (.inr (11, mF ma cod tpd (nI n) fls cls9 ffl fcl nds sai ous (nI ((((b9 + 1) + 1) + 1) + 1)) (-1))) = x9 := ⟨_, rfl⟩
                          have hw : z_S g A s.heap h42 H locs := by rw [← hh42]; exact hw
                          have f42_mo : h42 mo = some ((20, 0), .inr (11, mF ma cod tpd (nI n) fls cls9 ffl fcl nds sai ous (nI ((((b9 + 1) + 1) + 1) + 1)) (-1))) := by rw [← hh42]; exact z_put_eq
                          have f42_ma_1 : h42 (ma 1) = some ((22, 0), .inl (g.2.1 1, 4000, .inl f)) := by rw [← hh42]; exact z_keep f32_mo f32_ma_1 (z_t1 (by decide))
                          refine lv_iinc (v := 2) (lv' := [(4, .int 2), (3, .int ((16 * (0 + (zh (bt t n ((b9 + 1) + 1))))) + (zh (bt t n (((b9 + 1) + 1) + 1))))), (6, .int (zh (bt t n (((b9 + 1) + 1) + 1)))), (5, .int (bt t n (((b9 + 1) + 1) + 1))), (2, .int (bt t n (b9 + 1))), (0, .ref mo), (1, .int (nI b9))]) hx hb d_M_behind_162 hl (k := 3) rfl (by decide) (by decide) rfl (fun ls hl => ?_)
                          refine lv_goto (tgt := 62) hx hb d_M_behind_165 (by decide) ?_
                          refine lv_iload hx hb d_M_behind_62 (lv_at hl 0 rfl) ?_
                          refine lv_iconst (v := 2) hx hb d_M_behind_64 (by decide) ?_
                          refine lv_icmp_ge (tgt := 168) hx hb d_M_behind_65 (by decide) (fun c_65 => ?_) (fun c_65 => ?_)
                          · -- 65: True
                            refine lv_iload_n hx hb d_M_behind_168 rfl (lv_at hl 1 rfl) ?_
                            exact z_iret hx hb hr hlocks hw (by unfold escP; rw [show escR t n b9 = .inr (zh (bt t n (b9 + 2)) * 16 + zh (bt t n (b9 + 3)), b9 + 4) by unfold escR; rw [if_neg (fun z => z.elim c_33 (fun z => c_39 z)), if_neg (fun z => z c_47), if_neg zo0, if_neg zo1]]; refine ⟨congrArg some (congrArg Value.int ?_), by rw [← hh42, ← hh32, ← hh1, z_put_put, z_put_put]⟩; show _ = zh (bt t n (b9 + 2)) * 16 + zh (bt t n (b9 + 3)); rw [Int32.mul_comm _ 16]; congr 1; congr 1; exact Int32.zero_add _) (by decide) (by decide) d_M_behind_169
                          · -- 65: False
                            exact absurd (by decide) c_65
                        · -- 121: False
                          have zn1 := c_121
                          refine lv_aload_n hx hb d_M_behind_124 rfl (lv_at hl 5 rfl) ?_
                          refine lv_iload hx hb d_M_behind_125 (lv_at hl 1 rfl) ?_
                          refine lv_iconst (v := (-1)) hx hb d_M_behind_127 (by decide) ?_
                          refine lv_icmp_ne (tgt := 138) hx hb d_M_behind_128 (by decide) (fun c_128 => ?_) (fun c_128 => ?_)
                          · -- 128: True
                            refine lv_iload_n hx hb d_M_behind_138 rfl (lv_at hl 6 rfl) ?_
                            refine z_callV (n := 1) (As := [.int (nI b9)]) (rest := []) ⟨hx, hb, hml, hown, hts⟩ (m_fail l g h32 f32_mo) (z_in k_914 rfl) (z_in k_7 rfl) (z_in k_911 rfl) (z_in k_913 rfl) (z_in ks_32 rfl) (by decide +kernel) ⟨by first | exact Nat.le_of_ble_eq_true rfl | (dsimp only; omega) | omega, by first | exact Nat.le_of_ble_eq_true rfl | (dsimp only; omega) | omega⟩ hK hE hw hA rfl f32_mo rfl hl.1 (Nat.le_of_ble_eq_true rfl) d_M_behind_139 ⟨by first | exact Nat.le_of_ble_eq_true rfl | (dsimp only; omega) | omega, by first | exact Nat.le_of_ble_eq_true rfl | (dsimp only; omega) | omega⟩ rfl (fun r9 h9 H locs hp hw => ?_)
                            obtain ⟨r8, hh43⟩ := hp
                            subst r8
                            obtain ⟨h43, e8⟩ : ∃ x9, x9 = h9 := ⟨_, rfl⟩
                            subst e8
                            have f43_mo : h43 mo = some ((20, 0), .inr (11, mF ma cod tpd (nI n) fls cls9 ffl fcl nds sai ous (nI (((b9 + 1) + 1) + 1)) (nI b9))) := by rw [← hh43]; exact z_put_eq
                            have f43_ma_1 : h43 (ma 1) = some ((22, 0), .inl (g.2.1 1, 4000, .inl f)) := by rw [← hh43]; exact z_keep f32_mo f32_ma_1 (z_t1 (by decide))
                            refine W.eq (g2 := F0 m 142 ls []) rfl ?_
                            refine lv_iconst (v := 0) hx hb d_M_behind_142 (by decide) ?_
                            exact z_iret hx hb hr hlocks hw (by unfold escP; rw [show escR t n b9 = .inl (b9) by unfold escR; rw [if_neg (fun z => z.elim c_33 (fun z => c_39 z)), if_neg (fun z => z c_47), if_neg zo0, if_pos (show zh (bt t n (b9 + 3)) = -1 by simpa using zn1), if_neg c_128]]; exact ⟨((b9 + 1) + 1) + 1, by omega, by omega, rfl, by rw [← hh43, ← hh32, ← hh1, z_put_put, z_put_put]⟩) (by decide) (by decide) d_M_behind_143
                          · -- 128: False
                            refine lv_aload_n hx hb d_M_behind_131 rfl (lv_at hl 5 rfl) ?_
                            refine z_get hx hb hts (z_lay i_M) hown hK hw f32_mo rfl 4 (by decide) (z_in k_775 rfl) (fun _ h9 => h9) rfl d_M_behind_132 ?_
                            refine lv_goto (tgt := 139) hx hb d_M_behind_135 (by decide) ?_
                            refine z_callV (n := 1) (As := [.int (nI n)]) (rest := []) ⟨hx, hb, hml, hown, hts⟩ (m_fail l g h32 f32_mo) (z_in k_914 rfl) (z_in k_7 rfl) (z_in k_911 rfl) (z_in k_913 rfl) (z_in ks_32 rfl) (by decide +kernel) ⟨by first | exact Nat.le_of_ble_eq_true rfl | (dsimp only; omega) | omega, by first | exact Nat.le_of_ble_eq_true rfl | (dsimp only; omega) | omega⟩ hK hE hw hA rfl f32_mo rfl hl.1 (Nat.le_of_ble_eq_true rfl) d_M_behind_139 ⟨by first | exact Nat.le_of_ble_eq_true rfl | (dsimp only; omega) | omega, by first | exact Nat.le_of_ble_eq_true rfl | (dsimp only; omega) | omega⟩ rfl (fun r9 h9 H locs hp hw => ?_)
                            obtain ⟨r8, hh44⟩ := hp
                            subst r8
                            obtain ⟨h44, e8⟩ : ∃ x9, x9 = h9 := ⟨_, rfl⟩
                            subst e8
                            have f44_mo : h44 mo = some ((20, 0), .inr (11, mF ma cod tpd (nI n) fls cls9 ffl fcl nds sai ous (nI (((b9 + 1) + 1) + 1)) (nI n))) := by rw [← hh44]; exact z_put_eq
                            have f44_ma_1 : h44 (ma 1) = some ((22, 0), .inl (g.2.1 1, 4000, .inl f)) := by rw [← hh44]; exact z_keep f32_mo f32_ma_1 (z_t1 (by decide))
                            refine W.eq (g2 := F0 m 142 ls []) rfl ?_
                            refine lv_iconst (v := 0) hx hb d_M_behind_142 (by decide) ?_
                            exact z_iret hx hb hr hlocks hw (by unfold escP; rw [show escR t n b9 = .inl (n) by unfold escR; rw [if_neg (fun z => z.elim c_33 (fun z => c_39 z)), if_neg (fun z => z c_47), if_neg zo0, if_pos (show zh (bt t n (b9 + 3)) = -1 by simpa using zn1), if_pos (by simpa using c_128)]]; exact ⟨((b9 + 1) + 1) + 1, by omega, by omega, rfl, by rw [← hh44, ← hh32, ← hh1, z_put_put, z_put_put]⟩) (by decide) (by decide) d_M_behind_143
                  · -- 121: False
                    have zn0 := c_121
                    refine lv_aload_n hx hb d_M_behind_124 rfl (lv_at hl 5 rfl) ?_
                    refine lv_iload hx hb d_M_behind_125 (lv_at hl 1 rfl) ?_
                    refine lv_iconst (v := (-1)) hx hb d_M_behind_127 (by decide) ?_
                    refine lv_icmp_ne (tgt := 138) hx hb d_M_behind_128 (by decide) (fun c_128 => ?_) (fun c_128 => ?_)
                    · -- 128: True
                      refine lv_iload_n hx hb d_M_behind_138 rfl (lv_at hl 6 rfl) ?_
                      refine z_callV (n := 1) (As := [.int (nI b9)]) (rest := []) ⟨hx, hb, hml, hown, hts⟩ (m_fail l g h1 f1_mo) (z_in k_914 rfl) (z_in k_7 rfl) (z_in k_911 rfl) (z_in k_913 rfl) (z_in ks_32 rfl) (by decide +kernel) ⟨by first | exact Nat.le_of_ble_eq_true rfl | (dsimp only; omega) | omega, by first | exact Nat.le_of_ble_eq_true rfl | (dsimp only; omega) | omega⟩ hK hE hw hA rfl f1_mo rfl hl.1 (Nat.le_of_ble_eq_true rfl) d_M_behind_139 ⟨by first | exact Nat.le_of_ble_eq_true rfl | (dsimp only; omega) | omega, by first | exact Nat.le_of_ble_eq_true rfl | (dsimp only; omega) | omega⟩ rfl (fun r9 h9 H locs hp hw => ?_)
                      obtain ⟨r8, hh45⟩ := hp
                      subst r8
                      obtain ⟨h45, e8⟩ : ∃ x9, x9 = h9 := ⟨_, rfl⟩
                      subst e8
                      have f45_mo : h45 mo = some ((20, 0), .inr (11, mF ma cod tpd (nI n) fls cls9 ffl fcl nds sai ous (nI ((b9 + 1) + 1)) (nI b9))) := by rw [← hh45]; exact z_put_eq
                      have f45_ma_1 : h45 (ma 1) = some ((22, 0), .inl (g.2.1 1, 4000, .inl f)) := by rw [← hh45]; exact z_keep f1_mo f1_ma_1 (z_t1 (by decide))
                      refine W.eq (g2 := F0 m 142 ls []) rfl ?_
                      refine lv_iconst (v := 0) hx hb d_M_behind_142 (by decide) ?_
                      exact z_iret hx hb hr hlocks hw (by unfold escP; rw [show escR t n b9 = .inl (b9) by unfold escR; rw [if_neg (fun z => z.elim c_33 (fun z => c_39 z)), if_neg (fun z => z c_47), if_pos (show zh (bt t n (b9 + 2)) = -1 by simpa using zn0), if_neg c_128]]; exact ⟨(b9 + 1) + 1, by omega, by omega, rfl, by rw [← hh45, ← hh1, z_put_put]⟩) (by decide) (by decide) d_M_behind_143
                    · -- 128: False
                      refine lv_aload_n hx hb d_M_behind_131 rfl (lv_at hl 5 rfl) ?_
                      refine z_get hx hb hts (z_lay i_M) hown hK hw f1_mo rfl 4 (by decide) (z_in k_775 rfl) (fun _ h9 => h9) rfl d_M_behind_132 ?_
                      refine lv_goto (tgt := 139) hx hb d_M_behind_135 (by decide) ?_
                      refine z_callV (n := 1) (As := [.int (nI n)]) (rest := []) ⟨hx, hb, hml, hown, hts⟩ (m_fail l g h1 f1_mo) (z_in k_914 rfl) (z_in k_7 rfl) (z_in k_911 rfl) (z_in k_913 rfl) (z_in ks_32 rfl) (by decide +kernel) ⟨by first | exact Nat.le_of_ble_eq_true rfl | (dsimp only; omega) | omega, by first | exact Nat.le_of_ble_eq_true rfl | (dsimp only; omega) | omega⟩ hK hE hw hA rfl f1_mo rfl hl.1 (Nat.le_of_ble_eq_true rfl) d_M_behind_139 ⟨by first | exact Nat.le_of_ble_eq_true rfl | (dsimp only; omega) | omega, by first | exact Nat.le_of_ble_eq_true rfl | (dsimp only; omega) | omega⟩ rfl (fun r9 h9 H locs hp hw => ?_)
                      obtain ⟨r8, hh46⟩ := hp
                      subst r8
                      obtain ⟨h46, e8⟩ : ∃ x9, x9 = h9 := ⟨_, rfl⟩
                      subst e8
                      have f46_mo : h46 mo = some ((20, 0), .inr (11, mF ma cod tpd (nI n) fls cls9 ffl fcl nds sai ous (nI ((b9 + 1) + 1)) (nI n))) := by rw [← hh46]; exact z_put_eq
                      have f46_ma_1 : h46 (ma 1) = some ((22, 0), .inl (g.2.1 1, 4000, .inl f)) := by rw [← hh46]; exact z_keep f1_mo f1_ma_1 (z_t1 (by decide))
                      refine W.eq (g2 := F0 m 142 ls []) rfl ?_
                      refine lv_iconst (v := 0) hx hb d_M_behind_142 (by decide) ?_
                      exact z_iret hx hb hr hlocks hw (by unfold escP; rw [show escR t n b9 = .inl (n) by unfold escR; rw [if_neg (fun z => z.elim c_33 (fun z => c_39 z)), if_neg (fun z => z c_47), if_pos (show zh (bt t n (b9 + 2)) = -1 by simpa using zn0), if_pos (by simpa using c_128)]]; exact ⟨(b9 + 1) + 1, by omega, by omega, rfl, by rw [← hh46, ← hh1, z_put_put]⟩) (by decide) (by decide) d_M_behind_143
            · -- 79: False
              have c_79 : (isDig (bt t n ((b9 + 1) + 1))) = true := zb_t c_79
              refine lv_iload hx hb d_M_behind_82 (lv_at hl 0 rfl) ?_
              refine lv_bipush (v := 48) hx hb d_M_behind_84 (by decide) ?_
              refine lv_isub hx hb d_M_behind_86 ?_
              refine lv_goto (tgt := 116) hx hb d_M_behind_87 (by decide) ?_
              refine z_topi (y := zh (bt t n ((b9 + 1) + 1))) (by unfold zh; rw [if_pos c_79]) ?_
              refine lv_istore (lv' := [(6, .int (zh (bt t n ((b9 + 1) + 1)))), (5, .int (bt t n ((b9 + 1) + 1))), (4, .int 0), (3, .int 0), (2, .int (bt t n (b9 + 1))), (0, .ref mo), (1, .int (nI b9))]) hx hb d_M_behind_116 hl (by decide) rfl (fun ls hl => ?_)
              refine lv_iload hx hb d_M_behind_118 (lv_at hl 0 rfl) ?_
              refine lv_iconst (v := (-1)) hx hb d_M_behind_120 (by decide) ?_
              refine lv_icmp_ne (tgt := 144) hx hb d_M_behind_121 (by decide) (fun c_121 => ?_) (fun c_121 => ?_)
              · -- 121: True
                have zo0 : ¬ zh (bt t n ((b9 + 1) + 1)) = -1 := c_121
                have zl0 := (zh_bt (fun k hk => (hf k hk).1) zo0).1
                refine lv_bipush (v := 16) hx hb d_M_behind_144 (by decide) ?_
                refine lv_iload_n hx hb d_M_behind_146 rfl (lv_at hl 3 rfl) ?_
                refine lv_imul hx hb d_M_behind_147 ?_
                refine z_topi (y := 0) (by decide) ?_
                refine lv_iload hx hb d_M_behind_148 (lv_at hl 0 rfl) ?_
                refine lv_iadd hx hb d_M_behind_150 ?_
                refine lv_istore_n (lv' := [(3, .int (0 + (zh (bt t n ((b9 + 1) + 1))))), (6, .int (zh (bt t n ((b9 + 1) + 1)))), (5, .int (bt t n ((b9 + 1) + 1))), (4, .int 0), (2, .int (bt t n (b9 + 1))), (0, .ref mo), (1, .int (nI b9))]) hx hb d_M_behind_151 rfl hl (by decide) rfl (fun ls hl => ?_)
                refine lv_aload_n hx hb d_M_behind_152 rfl (lv_at hl 5 rfl) ?_
                refine lv_dup hx hb d_M_behind_153 rfl ?_
                refine z_get hx hb hts (z_lay i_M) hown hK hw f1_mo rfl 29 (by decide) (z_in k_800 rfl) (fun _ h9 => h9) rfl d_M_behind_154 ?_
                refine lv_iconst (v := 1) hx hb d_M_behind_157 (by decide) ?_
                refine lv_iadd hx hb d_M_behind_158 ?_
                refine z_topi (y := nI (((b9 + 1) + 1) + 1)) (nI_add ((b9 + 1) + 1) 1) ?_
                refine z_putf (ty := .int) hx hb hts (z_lay i_M) t_M t_M_ok n_M hown hK hw f1_mo rfl 29 (by decide) (z_in k_800 rfl) (fun _ h9 => h9) rfl (by decide +kernel) rfl rfl (Nat.le_of_ble_eq_true rfl) d_M_behind_159 (fun H locs hw => ?_)
                obtain ⟨h47, hh47⟩ : ∃ x9, z_put h1 mo (20, 0) (.inr (11, mF ma cod tpd (nI n) fls cls9 ffl fcl nds sai ous (nI (((b9 + 1) + 1) + 1)) (-1))) = x9 := ⟨_, rfl⟩
                have hw : z_S g A s.heap h47 H locs := by rw [← hh47]; exact hw
                have f47_mo : h47 mo = some ((20, 0), .inr (11, mF ma cod tpd (nI n) fls cls9 ffl fcl nds sai ous (nI (((b9 + 1) + 1) + 1)) (-1))) := by rw [← hh47]; exact z_put_eq
                have f47_ma_1 : h47 (ma 1) = some ((22, 0), .inl (g.2.1 1, 4000, .inl f)) := by rw [← hh47]; exact z_keep f1_mo f1_ma_1 (z_t1 (by decide))
                refine lv_iinc (v := 1) (lv' := [(4, .int 1), (3, .int (0 + (zh (bt t n ((b9 + 1) + 1))))), (6, .int (zh (bt t n ((b9 + 1) + 1)))), (5, .int (bt t n ((b9 + 1) + 1))), (2, .int (bt t n (b9 + 1))), (0, .ref mo), (1, .int (nI b9))]) hx hb d_M_behind_162 hl (k := 3) rfl (by decide) (by decide) rfl (fun ls hl => ?_)
                refine lv_goto (tgt := 62) hx hb d_M_behind_165 (by decide) ?_
                refine lv_iload hx hb d_M_behind_62 (lv_at hl 0 rfl) ?_
                refine lv_iconst (v := 2) hx hb d_M_behind_64 (by decide) ?_
                refine lv_icmp_ge (tgt := 168) hx hb d_M_behind_65 (by decide) (fun c_65 => ?_) (fun c_65 => ?_)
                · -- 65: True
                  exact absurd c_65 (by decide)
                · -- 65: False
                  refine lv_aload_n hx hb d_M_behind_68 rfl (lv_at hl 5 rfl) ?_
                  refine z_callV (n := 0) (As := []) (rest := []) ⟨hx, hb, hml, hown, hts⟩ (m_look (t := t) l g h47 f47_mo f47_ma_1 hn hf (by omega)) (z_in k_889 rfl) (z_in k_7 rfl) (z_in k_886 rfl) (z_in k_888 rfl) (z_in ks_28 rfl) (by decide +kernel) ⟨by first | exact Nat.le_of_ble_eq_true rfl | (dsimp only; omega) | omega, by first | exact Nat.le_of_ble_eq_true rfl | (dsimp only; omega) | omega⟩ hK hE hw hA rfl f47_mo rfl hl.1 (Nat.le_of_ble_eq_true rfl) d_M_behind_69 ⟨by first | exact Nat.le_of_ble_eq_true rfl | (dsimp only; omega) | omega, by first | exact Nat.le_of_ble_eq_true rfl | (dsimp only; omega) | omega⟩ rfl (fun r9 h9 H locs hp hw => ?_)
                  obtain ⟨r8, h8⟩ := hp
                  subst r8
                  subst h8
                  refine W.eq (g2 := F0 m 72 ls [.int (bt t n (((b9 + 1) + 1) + 1))]) rfl ?_
                  refine lv_istore (lv' := [(5, .int (bt t n (((b9 + 1) + 1) + 1))), (4, .int 1), (3, .int (0 + (zh (bt t n ((b9 + 1) + 1))))), (6, .int (zh (bt t n ((b9 + 1) + 1)))), (2, .int (bt t n (b9 + 1))), (0, .ref mo), (1, .int (nI b9))]) hx hb d_M_behind_72 hl (by decide) rfl (fun ls hl => ?_)
                  refine lv_iload hx hb d_M_behind_74 (lv_at hl 0 rfl) ?_
                  refine z_callS (n := 1) (As := [.int (bt t n (((b9 + 1) + 1) + 1))]) (rest := []) ⟨hx, hb, hml, hown, hts⟩ (m_isDigit l g h47) (z_in k_908 rfl) (z_in k_7 rfl) (z_in k_906 rfl) (z_in k_907 rfl) (by decide +kernel) ⟨by first | exact Nat.le_of_ble_eq_true rfl | (dsimp only; omega) | omega, by first | exact Nat.le_of_ble_eq_true rfl | (dsimp only; omega) | omega⟩ hK hE hw hA rfl hl.1 (Nat.le_of_ble_eq_true rfl) d_M_behind_76 ⟨by first | exact Nat.le_of_ble_eq_true rfl | (dsimp only; omega) | omega, by first | exact Nat.le_of_ble_eq_true rfl | (dsimp only; omega) | omega⟩ rfl (fun r9 h9 H locs hp hw => ?_)
                  obtain ⟨r8, h8⟩ := hp
                  subst r8
                  subst h8
                  refine W.eq (g2 := F0 m 79 ls [.int (zb (isDig (bt t n (((b9 + 1) + 1) + 1))))]) rfl ?_
                  refine lv_if_eq (tgt := 90) hx hb d_M_behind_79 (by decide) (fun c_79 => ?_) (fun c_79 => ?_)
                  · -- 79: True
                    have c_79 : (isDig (bt t n (((b9 + 1) + 1) + 1))) = false := zb_f c_79
                    refine lv_iload hx hb d_M_behind_90 (lv_at hl 0 rfl) ?_
                    refine lv_bipush (v := 97) hx hb d_M_behind_92 (by decide) ?_
                    refine lv_icmp_lt (tgt := 115) hx hb d_M_behind_94 (by decide) (fun c_94 => ?_) (fun c_94 => ?_)
                    · -- 94: True
                      refine lv_iconst (v := (-1)) hx hb d_M_behind_115 (by decide) ?_
                      refine z_topi (y := zh (bt t n (((b9 + 1) + 1) + 1))) (by unfold zh; rw [if_neg (by rw [c_79]; decide), if_neg (fun z => absurd z.1 (Int32.not_le.mpr c_94))]) ?_
                      refine lv_istore (lv' := [(6, .int (zh (bt t n (((b9 + 1) + 1) + 1)))), (5, .int (bt t n (((b9 + 1) + 1) + 1))), (4, .int 1), (3, .int (0 + (zh (bt t n ((b9 + 1) + 1))))), (2, .int (bt t n (b9 + 1))), (0, .ref mo), (1, .int (nI b9))]) hx hb d_M_behind_116 hl (by decide) rfl (fun ls hl => ?_)
                      refine lv_iload hx hb d_M_behind_118 (lv_at hl 0 rfl) ?_
                      refine lv_iconst (v := (-1)) hx hb d_M_behind_120 (by decide) ?_
                      refine lv_icmp_ne (tgt := 144) hx hb d_M_behind_121 (by decide) (fun c_121 => ?_) (fun c_121 => ?_)
                      · -- 121: True
                        have zo1 : ¬ zh (bt t n (((b9 + 1) + 1) + 1)) = -1 := c_121
                        have zl1 := (zh_bt (fun k hk => (hf k hk).1) zo1).1
                        refine lv_bipush (v := 16) hx hb d_M_behind_144 (by decide) ?_
                        refine lv_iload_n hx hb d_M_behind_146 rfl (lv_at hl 3 rfl) ?_
                        refine lv_imul hx hb d_M_behind_147 ?_
                        refine lv_iload hx hb d_M_behind_148 (lv_at hl 0 rfl) ?_
                        refine lv_iadd hx hb d_M_behind_150 ?_
                        refine lv_istore_n (lv' := [(3, .int ((16 * (0 + (zh (bt t n ((b9 + 1) + 1))))) + (zh (bt t n (((b9 + 1) + 1) + 1))))), (6, .int (zh (bt t n (((b9 + 1) + 1) + 1)))), (5, .int (bt t n (((b9 + 1) + 1) + 1))), (4, .int 1), (2, .int (bt t n (b9 + 1))), (0, .ref mo), (1, .int (nI b9))]) hx hb d_M_behind_151 rfl hl (by decide) rfl (fun ls hl => ?_)
                        refine lv_aload_n hx hb d_M_behind_152 rfl (lv_at hl 5 rfl) ?_
                        refine lv_dup hx hb d_M_behind_153 rfl ?_
                        refine z_get hx hb hts (z_lay i_M) hown hK hw f47_mo rfl 29 (by decide) (z_in k_800 rfl) (fun _ h9 => h9) rfl d_M_behind_154 ?_
                        refine lv_iconst (v := 1) hx hb d_M_behind_157 (by decide) ?_
                        refine lv_iadd hx hb d_M_behind_158 ?_
                        refine z_topi (y := nI ((((b9 + 1) + 1) + 1) + 1)) (nI_add (((b9 + 1) + 1) + 1) 1) ?_
                        refine z_putf (ty := .int) hx hb hts (z_lay i_M) t_M t_M_ok n_M hown hK hw f47_mo rfl 29 (by decide) (z_in k_800 rfl) (fun _ h9 => h9) rfl (by decide +kernel) rfl rfl (Nat.le_of_ble_eq_true rfl) d_M_behind_159 (fun H locs hw => ?_)
                        obtain ⟨h48, hh48⟩ : ∃ x9, z_put h47 mo (20, 0) (.inr (11, mF ma cod tpd (nI n) fls cls9 ffl fcl nds sai ous (nI ((((b9 + 1) + 1) + 1) + 1)) (-1))) = x9 := ⟨_, rfl⟩
                        have hw : z_S g A s.heap h48 H locs := by rw [← hh48]; exact hw
                        have f48_mo : h48 mo = some ((20, 0), .inr (11, mF ma cod tpd (nI n) fls cls9 ffl fcl nds sai ous (nI ((((b9 + 1) + 1) + 1) + 1)) (-1))) := by rw [← hh48]; exact z_put_eq
                        have f48_ma_1 : h48 (ma 1) = some ((22, 0), .inl (g.2.1 1, 4000, .inl f)) := by rw [← hh48]; exact z_keep f47_mo f47_ma_1 (z_t1 (by decide))
                        refine lv_iinc (v := 2) (lv' := [(4, .int 2), (3, .int ((16 * (0 + (zh (bt t n ((b9 + 1) + 1))))) + (zh (bt t n (((b9 + 1) + 1) + 1))))), (6, .int (zh (bt t n (((b9 + 1) + 1) + 1)))), (5, .int (bt t n (((b9 + 1) + 1) + 1))), (2, .int (bt t n (b9 + 1))), (0, .ref mo), (1, .int (nI b9))]) hx hb d_M_behind_162 hl (k := 3) rfl (by decide) (by decide) rfl (fun ls hl => ?_)
                        refine lv_goto (tgt := 62) hx hb d_M_behind_165 (by decide) ?_
                        refine lv_iload hx hb d_M_behind_62 (lv_at hl 0 rfl) ?_
                        refine lv_iconst (v := 2) hx hb d_M_behind_64 (by decide) ?_
                        refine lv_icmp_ge (tgt := 168) hx hb d_M_behind_65 (by decide) (fun c_65 => ?_) (fun c_65 => ?_)
                        · -- 65: True
                          refine lv_iload_n hx hb d_M_behind_168 rfl (lv_at hl 1 rfl) ?_
                          exact z_iret hx hb hr hlocks hw (by unfold escP; rw [show escR t n b9 = .inr (zh (bt t n (b9 + 2)) * 16 + zh (bt t n (b9 + 3)), b9 + 4) by unfold escR; rw [if_neg (fun z => z.elim c_33 (fun z => c_39 z)), if_neg (fun z => z c_47), if_neg zo0, if_neg zo1]]; refine ⟨congrArg some (congrArg Value.int ?_), by rw [← hh48, ← hh47, ← hh1, z_put_put, z_put_put]⟩; show _ = zh (bt t n (b9 + 2)) * 16 + zh (bt t n (b9 + 3)); rw [Int32.mul_comm _ 16]; congr 1; congr 1; exact Int32.zero_add _) (by decide) (by decide) d_M_behind_169
                        · -- 65: False
                          exact absurd (by decide) c_65
                      · -- 121: False
                        have zn1 := c_121
                        refine lv_aload_n hx hb d_M_behind_124 rfl (lv_at hl 5 rfl) ?_
                        refine lv_iload hx hb d_M_behind_125 (lv_at hl 1 rfl) ?_
                        refine lv_iconst (v := (-1)) hx hb d_M_behind_127 (by decide) ?_
                        refine lv_icmp_ne (tgt := 138) hx hb d_M_behind_128 (by decide) (fun c_128 => ?_) (fun c_128 => ?_)
                        · -- 128: True
                          refine lv_iload_n hx hb d_M_behind_138 rfl (lv_at hl 6 rfl) ?_
                          refine z_callV (n := 1) (As := [.int (nI b9)]) (rest := []) ⟨hx, hb, hml, hown, hts⟩ (m_fail l g h47 f47_mo) (z_in k_914 rfl) (z_in k_7 rfl) (z_in k_911 rfl) (z_in k_913 rfl) (z_in ks_32 rfl) (by decide +kernel) ⟨by first | exact Nat.le_of_ble_eq_true rfl | (dsimp only; omega) | omega, by first | exact Nat.le_of_ble_eq_true rfl | (dsimp only; omega) | omega⟩ hK hE hw hA rfl f47_mo rfl hl.1 (Nat.le_of_ble_eq_true rfl) d_M_behind_139 ⟨by first | exact Nat.le_of_ble_eq_true rfl | (dsimp only; omega) | omega, by first | exact Nat.le_of_ble_eq_true rfl | (dsimp only; omega) | omega⟩ rfl (fun r9 h9 H locs hp hw => ?_)
                          obtain ⟨r8, hh49⟩ := hp
                          subst r8
                          obtain ⟨h49, e8⟩ : ∃ x9, x9 = h9 := ⟨_, rfl⟩
                          subst e8
                          have f49_mo : h49 mo = some ((20, 0), .inr (11, mF ma cod tpd (nI n) fls cls9 ffl fcl nds sai ous (nI (((b9 + 1) + 1) + 1)) (nI b9))) := by rw [← hh49]; exact z_put_eq
                          have f49_ma_1 : h49 (ma 1) = some ((22, 0), .inl (g.2.1 1, 4000, .inl f)) := by rw [← hh49]; exact z_keep f47_mo f47_ma_1 (z_t1 (by decide))
                          refine W.eq (g2 := F0 m 142 ls []) rfl ?_
                          refine lv_iconst (v := 0) hx hb d_M_behind_142 (by decide) ?_
                          exact z_iret hx hb hr hlocks hw (by unfold escP; rw [show escR t n b9 = .inl (b9) by unfold escR; rw [if_neg (fun z => z.elim c_33 (fun z => c_39 z)), if_neg (fun z => z c_47), if_neg zo0, if_pos (show zh (bt t n (b9 + 3)) = -1 by simpa using zn1), if_neg c_128]]; exact ⟨((b9 + 1) + 1) + 1, by omega, by omega, rfl, by rw [← hh49, ← hh47, ← hh1, z_put_put, z_put_put]⟩) (by decide) (by decide) d_M_behind_143
                        · -- 128: False
                          refine lv_aload_n hx hb d_M_behind_131 rfl (lv_at hl 5 rfl) ?_
                          refine z_get hx hb hts (z_lay i_M) hown hK hw f47_mo rfl 4 (by decide) (z_in k_775 rfl) (fun _ h9 => h9) rfl d_M_behind_132 ?_
                          refine lv_goto (tgt := 139) hx hb d_M_behind_135 (by decide) ?_
                          refine z_callV (n := 1) (As := [.int (nI n)]) (rest := []) ⟨hx, hb, hml, hown, hts⟩ (m_fail l g h47 f47_mo) (z_in k_914 rfl) (z_in k_7 rfl) (z_in k_911 rfl) (z_in k_913 rfl) (z_in ks_32 rfl) (by decide +kernel) ⟨by first | exact Nat.le_of_ble_eq_true rfl | (dsimp only; omega) | omega, by first | exact Nat.le_of_ble_eq_true rfl | (dsimp only; omega) | omega⟩ hK hE hw hA rfl f47_mo rfl hl.1 (Nat.le_of_ble_eq_true rfl) d_M_behind_139 ⟨by first | exact Nat.le_of_ble_eq_true rfl | (dsimp only; omega) | omega, by first | exact Nat.le_of_ble_eq_true rfl | (dsimp only; omega) | omega⟩ rfl (fun r9 h9 H locs hp hw => ?_)
                          obtain ⟨r8, hh50⟩ := hp
                          subst r8
                          obtain ⟨h50, e8⟩ : ∃ x9, x9 = h9 := ⟨_, rfl⟩
                          subst e8
                          have f50_mo : h50 mo = some ((20, 0), .inr (11, mF ma cod tpd (nI n) fls cls9 ffl fcl nds sai ous (nI (((b9 + 1) + 1) + 1)) (nI n))) := by rw [← hh50]; exact z_put_eq
                          have f50_ma_1 : h50 (ma 1) = some ((22, 0), .inl (g.2.1 1, 4000, .inl f)) := by rw [← hh50]; exact z_keep f47_mo f47_ma_1 (z_t1 (by decide))
                          refine W.eq (g2 := F0 m 142 ls []) rfl ?_
                          refine lv_iconst (v := 0) hx hb d_M_behind_142 (by decide) ?_
                          exact z_iret hx hb hr hlocks hw (by unfold escP; rw [show escR t n b9 = .inl (n) by unfold escR; rw [if_neg (fun z => z.elim c_33 (fun z => c_39 z)), if_neg (fun z => z c_47), if_neg zo0, if_pos (show zh (bt t n (b9 + 3)) = -1 by simpa using zn1), if_pos (by simpa using c_128)]]; exact ⟨((b9 + 1) + 1) + 1, by omega, by omega, rfl, by rw [← hh50, ← hh47, ← hh1, z_put_put, z_put_put]⟩) (by decide) (by decide) d_M_behind_143
                    · -- 94: False
                      refine lv_iload hx hb d_M_behind_97 (lv_at hl 0 rfl) ?_
                      refine lv_bipush (v := 102) hx hb d_M_behind_99 (by decide) ?_
                      refine lv_icmp_gt (tgt := 115) hx hb d_M_behind_101 (by decide) (fun c_101 => ?_) (fun c_101 => ?_)
                      · -- 101: True
                        refine lv_iconst (v := (-1)) hx hb d_M_behind_115 (by decide) ?_
                        refine z_topi (y := zh (bt t n (((b9 + 1) + 1) + 1))) (by unfold zh; rw [if_neg (by rw [c_79]; decide), if_neg (fun z => absurd z.2 (Int32.not_le.mpr c_101))]) ?_
                        refine lv_istore (lv' := [(6, .int (zh (bt t n (((b9 + 1) + 1) + 1)))), (5, .int (bt t n (((b9 + 1) + 1) + 1))), (4, .int 1), (3, .int (0 + (zh (bt t n ((b9 + 1) + 1))))), (2, .int (bt t n (b9 + 1))), (0, .ref mo), (1, .int (nI b9))]) hx hb d_M_behind_116 hl (by decide) rfl (fun ls hl => ?_)
                        refine lv_iload hx hb d_M_behind_118 (lv_at hl 0 rfl) ?_
                        refine lv_iconst (v := (-1)) hx hb d_M_behind_120 (by decide) ?_
                        refine lv_icmp_ne (tgt := 144) hx hb d_M_behind_121 (by decide) (fun c_121 => ?_) (fun c_121 => ?_)
                        · -- 121: True
                          have zo1 : ¬ zh (bt t n (((b9 + 1) + 1) + 1)) = -1 := c_121
                          have zl1 := (zh_bt (fun k hk => (hf k hk).1) zo1).1
                          refine lv_bipush (v := 16) hx hb d_M_behind_144 (by decide) ?_
                          refine lv_iload_n hx hb d_M_behind_146 rfl (lv_at hl 3 rfl) ?_
                          refine lv_imul hx hb d_M_behind_147 ?_
                          refine lv_iload hx hb d_M_behind_148 (lv_at hl 0 rfl) ?_
                          refine lv_iadd hx hb d_M_behind_150 ?_
                          refine lv_istore_n (lv' := [(3, .int ((16 * (0 + (zh (bt t n ((b9 + 1) + 1))))) + (zh (bt t n (((b9 + 1) + 1) + 1))))), (6, .int (zh (bt t n (((b9 + 1) + 1) + 1)))), (5, .int (bt t n (((b9 + 1) + 1) + 1))), (4, .int 1), (2, .int (bt t n (b9 + 1))), (0, .ref mo), (1, .int (nI b9))]) hx hb d_M_behind_151 rfl hl (by decide) rfl (fun ls hl => ?_)
                          refine lv_aload_n hx hb d_M_behind_152 rfl (lv_at hl 5 rfl) ?_
                          refine lv_dup hx hb d_M_behind_153 rfl ?_
                          refine z_get hx hb hts (z_lay i_M) hown hK hw f47_mo rfl 29 (by decide) (z_in k_800 rfl) (fun _ h9 => h9) rfl d_M_behind_154 ?_
                          refine lv_iconst (v := 1) hx hb d_M_behind_157 (by decide) ?_
                          refine lv_iadd hx hb d_M_behind_158 ?_
                          refine z_topi (y := nI ((((b9 + 1) + 1) + 1) + 1)) (nI_add (((b9 + 1) + 1) + 1) 1) ?_
                          refine z_putf (ty := .int) hx hb hts (z_lay i_M) t_M t_M_ok n_M hown hK hw f47_mo rfl 29 (by decide) (z_in k_800 rfl) (fun _ h9 => h9) rfl (by decide +kernel) rfl rfl (Nat.le_of_ble_eq_true rfl) d_M_behind_159 (fun H locs hw => ?_)
                          obtain ⟨h51, hh51⟩ : ∃ x9, z_put h47 mo (20, 0) (.inr (11, mF ma cod tpd (nI n) fls cls9 ffl fcl nds sai ous (nI ((((b9 + 1) + 1) + 1) + 1)) (-1))) = x9 := ⟨_, rfl⟩
                          have hw : z_S g A s.heap h51 H locs := by rw [← hh51]; exact hw
                          have f51_mo : h51 mo = some ((20, 0), .inr (11, mF ma cod tpd (nI n) fls cls9 ffl fcl nds sai ous (nI ((((b9 + 1) + 1) + 1) + 1)) (-1))) := by rw [← hh51]; exact z_put_eq
                          have f51_ma_1 : h51 (ma 1) = some ((22, 0), .inl (g.2.1 1, 4000, .inl f)) := by rw [← hh51]; exact z_keep f47_mo f47_ma_1 (z_t1 (by decide))
                          refine lv_iinc (v := 2) (lv' := [(4, .int 2), (3, .int ((16 * (0 + (zh (bt t n ((b9 + 1) + 1))))) + (zh (bt t n (((b9 + 1) + 1) + 1))))), (6, .int (zh (bt t n (((b9 + 1) + 1) + 1)))), (5, .int (bt t n (((b9 + 1) + 1) + 1))), (2, .int (bt t n (b9 + 1))), (0, .ref mo), (1, .int (nI b9))]) hx hb d_M_behind_162 hl (k := 3) rfl (by decide) (by decide) rfl (fun ls hl => ?_)
                          refine lv_goto (tgt := 62) hx hb d_M_behind_165 (by decide) ?_
                          refine lv_iload hx hb d_M_behind_62 (lv_at hl 0 rfl) ?_
                          refine lv_iconst (v := 2) hx hb d_M_behind_64 (by decide) ?_
                          refine lv_icmp_ge (tgt := 168) hx hb d_M_behind_65 (by decide) (fun c_65 => ?_) (fun c_65 => ?_)
                          · -- 65: True
                            refine lv_iload_n hx hb d_M_behind_168 rfl (lv_at hl 1 rfl) ?_
                            exact z_iret hx hb hr hlocks hw (by unfold escP; rw [show escR t n b9 = .inr (zh (bt t n (b9 + 2)) * 16 + zh (bt t n (b9 + 3)), b9 + 4) by unfold escR; rw [if_neg (fun z => z.elim c_33 (fun z => c_39 z)), if_neg (fun z => z c_47), if_neg zo0, if_neg zo1]]; refine ⟨congrArg some (congrArg Value.int ?_), by rw [← hh51, ← hh47, ← hh1, z_put_put, z_put_put]⟩; show _ = zh (bt t n (b9 + 2)) * 16 + zh (bt t n (b9 + 3)); rw [Int32.mul_comm _ 16]; congr 1; congr 1; exact Int32.zero_add _) (by decide) (by decide) d_M_behind_169
                          · -- 65: False
                            exact absurd (by decide) c_65
                        · -- 121: False
                          have zn1 := c_121
                          refine lv_aload_n hx hb d_M_behind_124 rfl (lv_at hl 5 rfl) ?_
                          refine lv_iload hx hb d_M_behind_125 (lv_at hl 1 rfl) ?_
                          refine lv_iconst (v := (-1)) hx hb d_M_behind_127 (by decide) ?_
                          refine lv_icmp_ne (tgt := 138) hx hb d_M_behind_128 (by decide) (fun c_128 => ?_) (fun c_128 => ?_)
                          · -- 128: True
                            refine lv_iload_n hx hb d_M_behind_138 rfl (lv_at hl 6 rfl) ?_
                            refine z_callV (n := 1) (As := [.int (nI b9)]) (rest := []) ⟨hx, hb, hml, hown, hts⟩ (m_fail l g h47 f47_mo) (z_in k_914 rfl) (z_in k_7 rfl) (z_in k_911 rfl) (z_in k_913 rfl) (z_in ks_32 rfl) (by decide +kernel) ⟨by first | exact Nat.le_of_ble_eq_true rfl | (dsimp only; omega) | omega, by first | exact Nat.le_of_ble_eq_true rfl | (dsimp only; omega) | omega⟩ hK hE hw hA rfl f47_mo rfl hl.1 (Nat.le_of_ble_eq_true rfl) d_M_behind_139 ⟨by first | exact Nat.le_of_ble_eq_true rfl | (dsimp only; omega) | omega, by first | exact Nat.le_of_ble_eq_true rfl | (dsimp only; omega) | omega⟩ rfl (fun r9 h9 H locs hp hw => ?_)
                            obtain ⟨r8, hh52⟩ := hp
                            subst r8
                            obtain ⟨h52, e8⟩ : ∃ x9, x9 = h9 := ⟨_, rfl⟩
                            subst e8
                            have f52_mo : h52 mo = some ((20, 0), .inr (11, mF ma cod tpd (nI n) fls cls9 ffl fcl nds sai ous (nI (((b9 + 1) + 1) + 1)) (nI b9))) := by rw [← hh52]; exact z_put_eq
                            have f52_ma_1 : h52 (ma 1) = some ((22, 0), .inl (g.2.1 1, 4000, .inl f)) := by rw [← hh52]; exact z_keep f47_mo f47_ma_1 (z_t1 (by decide))
                            refine W.eq (g2 := F0 m 142 ls []) rfl ?_
                            refine lv_iconst (v := 0) hx hb d_M_behind_142 (by decide) ?_
                            exact z_iret hx hb hr hlocks hw (by unfold escP; rw [show escR t n b9 = .inl (b9) by unfold escR; rw [if_neg (fun z => z.elim c_33 (fun z => c_39 z)), if_neg (fun z => z c_47), if_neg zo0, if_pos (show zh (bt t n (b9 + 3)) = -1 by simpa using zn1), if_neg c_128]]; exact ⟨((b9 + 1) + 1) + 1, by omega, by omega, rfl, by rw [← hh52, ← hh47, ← hh1, z_put_put, z_put_put]⟩) (by decide) (by decide) d_M_behind_143
                          · -- 128: False
                            refine lv_aload_n hx hb d_M_behind_131 rfl (lv_at hl 5 rfl) ?_
                            refine z_get hx hb hts (z_lay i_M) hown hK hw f47_mo rfl 4 (by decide) (z_in k_775 rfl) (fun _ h9 => h9) rfl d_M_behind_132 ?_
                            refine lv_goto (tgt := 139) hx hb d_M_behind_135 (by decide) ?_
                            refine z_callV (n := 1) (As := [.int (nI n)]) (rest := []) ⟨hx, hb, hml, hown, hts⟩ (m_fail l g h47 f47_mo) (z_in k_914 rfl) (z_in k_7 rfl) (z_in k_911 rfl) (z_in k_913 rfl) (z_in ks_32 rfl) (by decide +kernel) ⟨by first | exact Nat.le_of_ble_eq_true rfl | (dsimp only; omega) | omega, by first | exact Nat.le_of_ble_eq_true rfl | (dsimp only; omega) | omega⟩ hK hE hw hA rfl f47_mo rfl hl.1 (Nat.le_of_ble_eq_true rfl) d_M_behind_139 ⟨by first | exact Nat.le_of_ble_eq_true rfl | (dsimp only; omega) | omega, by first | exact Nat.le_of_ble_eq_true rfl | (dsimp only; omega) | omega⟩ rfl (fun r9 h9 H locs hp hw => ?_)
                            obtain ⟨r8, hh53⟩ := hp
                            subst r8
                            obtain ⟨h53, e8⟩ : ∃ x9, x9 = h9 := ⟨_, rfl⟩
                            subst e8
                            have f53_mo : h53 mo = some ((20, 0), .inr (11, mF ma cod tpd (nI n) fls cls9 ffl fcl nds sai ous (nI (((b9 + 1) + 1) + 1)) (nI n))) := by rw [← hh53]; exact z_put_eq
                            have f53_ma_1 : h53 (ma 1) = some ((22, 0), .inl (g.2.1 1, 4000, .inl f)) := by rw [← hh53]; exact z_keep f47_mo f47_ma_1 (z_t1 (by decide))
                            refine W.eq (g2 := F0 m 142 ls []) rfl ?_
                            refine lv_iconst (v := 0) hx hb d_M_behind_142 (by decide) ?_
                            exact z_iret hx hb hr hlocks hw (by unfold escP; rw [show escR t n b9 = .inl (n) by unfold escR; rw [if_neg (fun z => z.elim c_33 (fun z => c_39 z)), if_neg (fun z => z c_47), if_neg zo0, if_pos (show zh (bt t n (b9 + 3)) = -1 by simpa using zn1), if_pos (by simpa using c_128)]]; exact ⟨((b9 + 1) + 1) + 1, by omega, by omega, rfl, by rw [← hh53, ← hh47, ← hh1, z_put_put, z_put_put]⟩) (by decide) (by decide) d_M_behind_143
                      · -- 101: False
                        refine lv_iload hx hb d_M_behind_104 (lv_at hl 0 rfl) ?_
                        refine lv_bipush (v := 97) hx hb d_M_behind_106 (by decide) ?_
                        refine lv_isub hx hb d_M_behind_108 ?_
                        refine lv_bipush (v := 10) hx hb d_M_behind_109 (by decide) ?_
                        refine lv_iadd hx hb d_M_behind_111 ?_
                        refine lv_goto (tgt := 116) hx hb d_M_behind_112 (by decide) ?_
                        refine z_topi (y := zh (bt t n (((b9 + 1) + 1) + 1))) (by unfold zh; rw [if_neg (by rw [c_79]; decide), if_pos ⟨Int32.not_lt.mp c_94, Int32.not_lt.mp c_101⟩]) ?_
                        refine lv_istore (lv' := [(6, .int (zh (bt t n (((b9 + 1) + 1) + 1)))), (5, .int (bt t n (((b9 + 1) + 1) + 1))), (4, .int 1), (3, .int (0 + (zh (bt t n ((b9 + 1) + 1))))), (2, .int (bt t n (b9 + 1))), (0, .ref mo), (1, .int (nI b9))]) hx hb d_M_behind_116 hl (by decide) rfl (fun ls hl => ?_)
                        refine lv_iload hx hb d_M_behind_118 (lv_at hl 0 rfl) ?_
                        refine lv_iconst (v := (-1)) hx hb d_M_behind_120 (by decide) ?_
                        refine lv_icmp_ne (tgt := 144) hx hb d_M_behind_121 (by decide) (fun c_121 => ?_) (fun c_121 => ?_)
                        · -- 121: True
                          have zo1 : ¬ zh (bt t n (((b9 + 1) + 1) + 1)) = -1 := c_121
                          have zl1 := (zh_bt (fun k hk => (hf k hk).1) zo1).1
                          refine lv_bipush (v := 16) hx hb d_M_behind_144 (by decide) ?_
                          refine lv_iload_n hx hb d_M_behind_146 rfl (lv_at hl 3 rfl) ?_
                          refine lv_imul hx hb d_M_behind_147 ?_
                          refine lv_iload hx hb d_M_behind_148 (lv_at hl 0 rfl) ?_
                          refine lv_iadd hx hb d_M_behind_150 ?_
                          refine lv_istore_n (lv' := [(3, .int ((16 * (0 + (zh (bt t n ((b9 + 1) + 1))))) + (zh (bt t n (((b9 + 1) + 1) + 1))))), (6, .int (zh (bt t n (((b9 + 1) + 1) + 1)))), (5, .int (bt t n (((b9 + 1) + 1) + 1))), (4, .int 1), (2, .int (bt t n (b9 + 1))), (0, .ref mo), (1, .int (nI b9))]) hx hb d_M_behind_151 rfl hl (by decide) rfl (fun ls hl => ?_)
                          refine lv_aload_n hx hb d_M_behind_152 rfl (lv_at hl 5 rfl) ?_
                          refine lv_dup hx hb d_M_behind_153 rfl ?_
                          refine z_get hx hb hts (z_lay i_M) hown hK hw f47_mo rfl 29 (by decide) (z_in k_800 rfl) (fun _ h9 => h9) rfl d_M_behind_154 ?_
                          refine lv_iconst (v := 1) hx hb d_M_behind_157 (by decide) ?_
                          refine lv_iadd hx hb d_M_behind_158 ?_
                          refine z_topi (y := nI ((((b9 + 1) + 1) + 1) + 1)) (nI_add (((b9 + 1) + 1) + 1) 1) ?_
                          refine z_putf (ty := .int) hx hb hts (z_lay i_M) t_M t_M_ok n_M hown hK hw f47_mo rfl 29 (by decide) (z_in k_800 rfl) (fun _ h9 => h9) rfl (by decide +kernel) rfl rfl (Nat.le_of_ble_eq_true rfl) d_M_behind_159 (fun H locs hw => ?_)
                          obtain ⟨h54, hh54⟩ : ∃ x9, z_put h47 mo (20, 0) (.inr (11, mF ma cod tpd (nI n) fls cls9 ffl fcl nds sai ous (nI ((((b9 + 1) + 1) + 1) + 1)) (-1))) = x9 := ⟨_, rfl⟩
                          have hw : z_S g A s.heap h54 H locs := by rw [← hh54]; exact hw
                          have f54_mo : h54 mo = some ((20, 0), .inr (11, mF ma cod tpd (nI n) fls cls9 ffl fcl nds sai ous (nI ((((b9 + 1) + 1) + 1) + 1)) (-1))) := by rw [← hh54]; exact z_put_eq
                          have f54_ma_1 : h54 (ma 1) = some ((22, 0), .inl (g.2.1 1, 4000, .inl f)) := by rw [← hh54]; exact z_keep f47_mo f47_ma_1 (z_t1 (by decide))
                          refine lv_iinc (v := 2) (lv' := [(4, .int 2), (3, .int ((16 * (0 + (zh (bt t n ((b9 + 1) + 1))))) + (zh (bt t n (((b9 + 1) + 1) + 1))))), (6, .int (zh (bt t n (((b9 + 1) + 1) + 1)))), (5, .int (bt t n (((b9 + 1) + 1) + 1))), (2, .int (bt t n (b9 + 1))), (0, .ref mo), (1, .int (nI b9))]) hx hb d_M_behind_162 hl (k := 3) rfl (by decide) (by decide) rfl (fun ls hl => ?_)
                          refine lv_goto (tgt := 62) hx hb d_M_behind_165 (by decide) ?_
                          refine lv_iload hx hb d_M_behind_62 (lv_at hl 0 rfl) ?_
                          refine lv_iconst (v := 2) hx hb d_M_behind_64 (by decide) ?_
                          refine lv_icmp_ge (tgt := 168) hx hb d_M_behind_65 (by decide) (fun c_65 => ?_) (fun c_65 => ?_)
                          · -- 65: True
                            refine lv_iload_n hx hb d_M_behind_168 rfl (lv_at hl 1 rfl) ?_
                            exact z_iret hx hb hr hlocks hw (by unfold escP; rw [show escR t n b9 = .inr (zh (bt t n (b9 + 2)) * 16 + zh (bt t n (b9 + 3)), b9 + 4) by unfold escR; rw [if_neg (fun z => z.elim c_33 (fun z => c_39 z)), if_neg (fun z => z c_47), if_neg zo0, if_neg zo1]]; refine ⟨congrArg some (congrArg Value.int ?_), by rw [← hh54, ← hh47, ← hh1, z_put_put, z_put_put]⟩; show _ = zh (bt t n (b9 + 2)) * 16 + zh (bt t n (b9 + 3)); rw [Int32.mul_comm _ 16]; congr 1; congr 1; exact Int32.zero_add _) (by decide) (by decide) d_M_behind_169
                          · -- 65: False
                            exact absurd (by decide) c_65
                        · -- 121: False
                          have zn1 := c_121
                          refine lv_aload_n hx hb d_M_behind_124 rfl (lv_at hl 5 rfl) ?_
                          refine lv_iload hx hb d_M_behind_125 (lv_at hl 1 rfl) ?_
                          refine lv_iconst (v := (-1)) hx hb d_M_behind_127 (by decide) ?_
                          refine lv_icmp_ne (tgt := 138) hx hb d_M_behind_128 (by decide) (fun c_128 => ?_) (fun c_128 => ?_)
                          · -- 128: True
                            refine lv_iload_n hx hb d_M_behind_138 rfl (lv_at hl 6 rfl) ?_
                            refine z_callV (n := 1) (As := [.int (nI b9)]) (rest := []) ⟨hx, hb, hml, hown, hts⟩ (m_fail l g h47 f47_mo) (z_in k_914 rfl) (z_in k_7 rfl) (z_in k_911 rfl) (z_in k_913 rfl) (z_in ks_32 rfl) (by decide +kernel) ⟨by first | exact Nat.le_of_ble_eq_true rfl | (dsimp only; omega) | omega, by first | exact Nat.le_of_ble_eq_true rfl | (dsimp only; omega) | omega⟩ hK hE hw hA rfl f47_mo rfl hl.1 (Nat.le_of_ble_eq_true rfl) d_M_behind_139 ⟨by first | exact Nat.le_of_ble_eq_true rfl | (dsimp only; omega) | omega, by first | exact Nat.le_of_ble_eq_true rfl | (dsimp only; omega) | omega⟩ rfl (fun r9 h9 H locs hp hw => ?_)
                            obtain ⟨r8, hh55⟩ := hp
                            subst r8
                            obtain ⟨h55, e8⟩ : ∃ x9, x9 = h9 := ⟨_, rfl⟩
                            subst e8
                            have f55_mo : h55 mo = some ((20, 0), .inr (11, mF ma cod tpd (nI n) fls cls9 ffl fcl nds sai ous (nI (((b9 + 1) + 1) + 1)) (nI b9))) := by rw [← hh55]; exact z_put_eq
                            have f55_ma_1 : h55 (ma 1) = some ((22, 0), .inl (g.2.1 1, 4000, .inl f)) := by rw [← hh55]; exact z_keep f47_mo f47_ma_1 (z_t1 (by decide))
                            refine W.eq (g2 := F0 m 142 ls []) rfl ?_
                            refine lv_iconst (v := 0) hx hb d_M_behind_142 (by decide) ?_
                            exact z_iret hx hb hr hlocks hw (by unfold escP; rw [show escR t n b9 = .inl (b9) by unfold escR; rw [if_neg (fun z => z.elim c_33 (fun z => c_39 z)), if_neg (fun z => z c_47), if_neg zo0, if_pos (show zh (bt t n (b9 + 3)) = -1 by simpa using zn1), if_neg c_128]]; exact ⟨((b9 + 1) + 1) + 1, by omega, by omega, rfl, by rw [← hh55, ← hh47, ← hh1, z_put_put, z_put_put]⟩) (by decide) (by decide) d_M_behind_143
                          · -- 128: False
                            refine lv_aload_n hx hb d_M_behind_131 rfl (lv_at hl 5 rfl) ?_
                            refine z_get hx hb hts (z_lay i_M) hown hK hw f47_mo rfl 4 (by decide) (z_in k_775 rfl) (fun _ h9 => h9) rfl d_M_behind_132 ?_
                            refine lv_goto (tgt := 139) hx hb d_M_behind_135 (by decide) ?_
                            refine z_callV (n := 1) (As := [.int (nI n)]) (rest := []) ⟨hx, hb, hml, hown, hts⟩ (m_fail l g h47 f47_mo) (z_in k_914 rfl) (z_in k_7 rfl) (z_in k_911 rfl) (z_in k_913 rfl) (z_in ks_32 rfl) (by decide +kernel) ⟨by first | exact Nat.le_of_ble_eq_true rfl | (dsimp only; omega) | omega, by first | exact Nat.le_of_ble_eq_true rfl | (dsimp only; omega) | omega⟩ hK hE hw hA rfl f47_mo rfl hl.1 (Nat.le_of_ble_eq_true rfl) d_M_behind_139 ⟨by first | exact Nat.le_of_ble_eq_true rfl | (dsimp only; omega) | omega, by first | exact Nat.le_of_ble_eq_true rfl | (dsimp only; omega) | omega⟩ rfl (fun r9 h9 H locs hp hw => ?_)
                            obtain ⟨r8, hh56⟩ := hp
                            subst r8
                            obtain ⟨h56, e8⟩ : ∃ x9, x9 = h9 := ⟨_, rfl⟩
                            subst e8
                            have f56_mo : h56 mo = some ((20, 0), .inr (11, mF ma cod tpd (nI n) fls cls9 ffl fcl nds sai ous (nI (((b9 + 1) + 1) + 1)) (nI n))) := by rw [← hh56]; exact z_put_eq
                            have f56_ma_1 : h56 (ma 1) = some ((22, 0), .inl (g.2.1 1, 4000, .inl f)) := by rw [← hh56]; exact z_keep f47_mo f47_ma_1 (z_t1 (by decide))
                            refine W.eq (g2 := F0 m 142 ls []) rfl ?_
                            refine lv_iconst (v := 0) hx hb d_M_behind_142 (by decide) ?_
                            exact z_iret hx hb hr hlocks hw (by unfold escP; rw [show escR t n b9 = .inl (n) by unfold escR; rw [if_neg (fun z => z.elim c_33 (fun z => c_39 z)), if_neg (fun z => z c_47), if_neg zo0, if_pos (show zh (bt t n (b9 + 3)) = -1 by simpa using zn1), if_pos (by simpa using c_128)]]; exact ⟨((b9 + 1) + 1) + 1, by omega, by omega, rfl, by rw [← hh56, ← hh47, ← hh1, z_put_put, z_put_put]⟩) (by decide) (by decide) d_M_behind_143
                  · -- 79: False
                    have c_79 : (isDig (bt t n (((b9 + 1) + 1) + 1))) = true := zb_t c_79
                    refine lv_iload hx hb d_M_behind_82 (lv_at hl 0 rfl) ?_
                    refine lv_bipush (v := 48) hx hb d_M_behind_84 (by decide) ?_
                    refine lv_isub hx hb d_M_behind_86 ?_
                    refine lv_goto (tgt := 116) hx hb d_M_behind_87 (by decide) ?_
                    refine z_topi (y := zh (bt t n (((b9 + 1) + 1) + 1))) (by unfold zh; rw [if_pos c_79]) ?_
                    refine lv_istore (lv' := [(6, .int (zh (bt t n (((b9 + 1) + 1) + 1)))), (5, .int (bt t n (((b9 + 1) + 1) + 1))), (4, .int 1), (3, .int (0 + (zh (bt t n ((b9 + 1) + 1))))), (2, .int (bt t n (b9 + 1))), (0, .ref mo), (1, .int (nI b9))]) hx hb d_M_behind_116 hl (by decide) rfl (fun ls hl => ?_)
                    refine lv_iload hx hb d_M_behind_118 (lv_at hl 0 rfl) ?_
                    refine lv_iconst (v := (-1)) hx hb d_M_behind_120 (by decide) ?_
                    refine lv_icmp_ne (tgt := 144) hx hb d_M_behind_121 (by decide) (fun c_121 => ?_) (fun c_121 => ?_)
                    · -- 121: True
                      have zo1 : ¬ zh (bt t n (((b9 + 1) + 1) + 1)) = -1 := c_121
                      have zl1 := (zh_bt (fun k hk => (hf k hk).1) zo1).1
                      refine lv_bipush (v := 16) hx hb d_M_behind_144 (by decide) ?_
                      refine lv_iload_n hx hb d_M_behind_146 rfl (lv_at hl 3 rfl) ?_
                      refine lv_imul hx hb d_M_behind_147 ?_
                      refine lv_iload hx hb d_M_behind_148 (lv_at hl 0 rfl) ?_
                      refine lv_iadd hx hb d_M_behind_150 ?_
                      refine lv_istore_n (lv' := [(3, .int ((16 * (0 + (zh (bt t n ((b9 + 1) + 1))))) + (zh (bt t n (((b9 + 1) + 1) + 1))))), (6, .int (zh (bt t n (((b9 + 1) + 1) + 1)))), (5, .int (bt t n (((b9 + 1) + 1) + 1))), (4, .int 1), (2, .int (bt t n (b9 + 1))), (0, .ref mo), (1, .int (nI b9))]) hx hb d_M_behind_151 rfl hl (by decide) rfl (fun ls hl => ?_)
                      refine lv_aload_n hx hb d_M_behind_152 rfl (lv_at hl 5 rfl) ?_
                      refine lv_dup hx hb d_M_behind_153 rfl ?_
                      refine z_get hx hb hts (z_lay i_M) hown hK hw f47_mo rfl 29 (by decide) (z_in k_800 rfl) (fun _ h9 => h9) rfl d_M_behind_154 ?_
                      refine lv_iconst (v := 1) hx hb d_M_behind_157 (by decide) ?_
                      refine lv_iadd hx hb d_M_behind_158 ?_
                      refine z_topi (y := nI ((((b9 + 1) + 1) + 1) + 1)) (nI_add (((b9 + 1) + 1) + 1) 1) ?_
                      refine z_putf (ty := .int) hx hb hts (z_lay i_M) t_M t_M_ok n_M hown hK hw f47_mo rfl 29 (by decide) (z_in k_800 rfl) (fun _ h9 => h9) rfl (by decide +kernel) rfl rfl (Nat.le_of_ble_eq_true rfl) d_M_behind_159 (fun H locs hw => ?_)
                      obtain ⟨h57, hh57⟩ : ∃ x9, z_put h47 mo (20, 0) (.inr (11, mF ma cod tpd (nI n) fls cls9 ffl fcl nds sai ous (nI ((((b9 + 1) + 1) + 1) + 1)) (-1))) = x9 := ⟨_, rfl⟩
                      have hw : z_S g A s.heap h57 H locs := by rw [← hh57]; exact hw
                      have f57_mo : h57 mo = some ((20, 0), .inr (11, mF ma cod tpd (nI n) fls cls9 ffl fcl nds sai ous (nI ((((b9 + 1) + 1) + 1) + 1)) (-1))) := by rw [← hh57]; exact z_put_eq
                      have f57_ma_1 : h57 (ma 1) = some ((22, 0), .inl (g.2.1 1, 4000, .inl f)) := by rw [← hh57]; exact z_keep f47_mo f47_ma_1 (z_t1 (by decide))
                      refine lv_iinc (v := 2) (lv' := [(4, .int 2), (3, .int ((16 * (0 + (zh (bt t n ((b9 + 1) + 1))))) + (zh (bt t n (((b9 + 1) + 1) + 1))))), (6, .int (zh (bt t n (((b9 + 1) + 1) + 1)))), (5, .int (bt t n (((b9 + 1) + 1) + 1))), (2, .int (bt t n (b9 + 1))), (0, .ref mo), (1, .int (nI b9))]) hx hb d_M_behind_162 hl (k := 3) rfl (by decide) (by decide) rfl (fun ls hl => ?_)
                      refine lv_goto (tgt := 62) hx hb d_M_behind_165 (by decide) ?_
                      refine lv_iload hx hb d_M_behind_62 (lv_at hl 0 rfl) ?_
                      refine lv_iconst (v := 2) hx hb d_M_behind_64 (by decide) ?_
                      refine lv_icmp_ge (tgt := 168) hx hb d_M_behind_65 (by decide) (fun c_65 => ?_) (fun c_65 => ?_)
                      · -- 65: True
                        refine lv_iload_n hx hb d_M_behind_168 rfl (lv_at hl 1 rfl) ?_
                        exact z_iret hx hb hr hlocks hw (by unfold escP; rw [show escR t n b9 = .inr (zh (bt t n (b9 + 2)) * 16 + zh (bt t n (b9 + 3)), b9 + 4) by unfold escR; rw [if_neg (fun z => z.elim c_33 (fun z => c_39 z)), if_neg (fun z => z c_47), if_neg zo0, if_neg zo1]]; refine ⟨congrArg some (congrArg Value.int ?_), by rw [← hh57, ← hh47, ← hh1, z_put_put, z_put_put]⟩; show _ = zh (bt t n (b9 + 2)) * 16 + zh (bt t n (b9 + 3)); rw [Int32.mul_comm _ 16]; congr 1; congr 1; exact Int32.zero_add _) (by decide) (by decide) d_M_behind_169
                      · -- 65: False
                        exact absurd (by decide) c_65
                    · -- 121: False
                      have zn1 := c_121
                      refine lv_aload_n hx hb d_M_behind_124 rfl (lv_at hl 5 rfl) ?_
                      refine lv_iload hx hb d_M_behind_125 (lv_at hl 1 rfl) ?_
                      refine lv_iconst (v := (-1)) hx hb d_M_behind_127 (by decide) ?_
                      refine lv_icmp_ne (tgt := 138) hx hb d_M_behind_128 (by decide) (fun c_128 => ?_) (fun c_128 => ?_)
                      · -- 128: True
                        refine lv_iload_n hx hb d_M_behind_138 rfl (lv_at hl 6 rfl) ?_
                        refine z_callV (n := 1) (As := [.int (nI b9)]) (rest := []) ⟨hx, hb, hml, hown, hts⟩ (m_fail l g h47 f47_mo) (z_in k_914 rfl) (z_in k_7 rfl) (z_in k_911 rfl) (z_in k_913 rfl) (z_in ks_32 rfl) (by decide +kernel) ⟨by first | exact Nat.le_of_ble_eq_true rfl | (dsimp only; omega) | omega, by first | exact Nat.le_of_ble_eq_true rfl | (dsimp only; omega) | omega⟩ hK hE hw hA rfl f47_mo rfl hl.1 (Nat.le_of_ble_eq_true rfl) d_M_behind_139 ⟨by first | exact Nat.le_of_ble_eq_true rfl | (dsimp only; omega) | omega, by first | exact Nat.le_of_ble_eq_true rfl | (dsimp only; omega) | omega⟩ rfl (fun r9 h9 H locs hp hw => ?_)
                        obtain ⟨r8, hh58⟩ := hp
                        subst r8
                        obtain ⟨h58, e8⟩ : ∃ x9, x9 = h9 := ⟨_, rfl⟩
                        subst e8
                        have f58_mo : h58 mo = some ((20, 0), .inr (11, mF ma cod tpd (nI n) fls cls9 ffl fcl nds sai ous (nI (((b9 + 1) + 1) + 1)) (nI b9))) := by rw [← hh58]; exact z_put_eq
                        have f58_ma_1 : h58 (ma 1) = some ((22, 0), .inl (g.2.1 1, 4000, .inl f)) := by rw [← hh58]; exact z_keep f47_mo f47_ma_1 (z_t1 (by decide))
                        refine W.eq (g2 := F0 m 142 ls []) rfl ?_
                        refine lv_iconst (v := 0) hx hb d_M_behind_142 (by decide) ?_
                        exact z_iret hx hb hr hlocks hw (by unfold escP; rw [show escR t n b9 = .inl (b9) by unfold escR; rw [if_neg (fun z => z.elim c_33 (fun z => c_39 z)), if_neg (fun z => z c_47), if_neg zo0, if_pos (show zh (bt t n (b9 + 3)) = -1 by simpa using zn1), if_neg c_128]]; exact ⟨((b9 + 1) + 1) + 1, by omega, by omega, rfl, by rw [← hh58, ← hh47, ← hh1, z_put_put, z_put_put]⟩) (by decide) (by decide) d_M_behind_143
                      · -- 128: False
                        refine lv_aload_n hx hb d_M_behind_131 rfl (lv_at hl 5 rfl) ?_
                        refine z_get hx hb hts (z_lay i_M) hown hK hw f47_mo rfl 4 (by decide) (z_in k_775 rfl) (fun _ h9 => h9) rfl d_M_behind_132 ?_
                        refine lv_goto (tgt := 139) hx hb d_M_behind_135 (by decide) ?_
                        refine z_callV (n := 1) (As := [.int (nI n)]) (rest := []) ⟨hx, hb, hml, hown, hts⟩ (m_fail l g h47 f47_mo) (z_in k_914 rfl) (z_in k_7 rfl) (z_in k_911 rfl) (z_in k_913 rfl) (z_in ks_32 rfl) (by decide +kernel) ⟨by first | exact Nat.le_of_ble_eq_true rfl | (dsimp only; omega) | omega, by first | exact Nat.le_of_ble_eq_true rfl | (dsimp only; omega) | omega⟩ hK hE hw hA rfl f47_mo rfl hl.1 (Nat.le_of_ble_eq_true rfl) d_M_behind_139 ⟨by first | exact Nat.le_of_ble_eq_true rfl | (dsimp only; omega) | omega, by first | exact Nat.le_of_ble_eq_true rfl | (dsimp only; omega) | omega⟩ rfl (fun r9 h9 H locs hp hw => ?_)
                        obtain ⟨r8, hh59⟩ := hp
                        subst r8
                        obtain ⟨h59, e8⟩ : ∃ x9, x9 = h9 := ⟨_, rfl⟩
                        subst e8
                        have f59_mo : h59 mo = some ((20, 0), .inr (11, mF ma cod tpd (nI n) fls cls9 ffl fcl nds sai ous (nI (((b9 + 1) + 1) + 1)) (nI n))) := by rw [← hh59]; exact z_put_eq
                        have f59_ma_1 : h59 (ma 1) = some ((22, 0), .inl (g.2.1 1, 4000, .inl f)) := by rw [← hh59]; exact z_keep f47_mo f47_ma_1 (z_t1 (by decide))
                        refine W.eq (g2 := F0 m 142 ls []) rfl ?_
                        refine lv_iconst (v := 0) hx hb d_M_behind_142 (by decide) ?_
                        exact z_iret hx hb hr hlocks hw (by unfold escP; rw [show escR t n b9 = .inl (n) by unfold escR; rw [if_neg (fun z => z.elim c_33 (fun z => c_39 z)), if_neg (fun z => z c_47), if_neg zo0, if_pos (show zh (bt t n (b9 + 3)) = -1 by simpa using zn1), if_pos (by simpa using c_128)]]; exact ⟨((b9 + 1) + 1) + 1, by omega, by omega, rfl, by rw [← hh59, ← hh47, ← hh1, z_put_put, z_put_put]⟩) (by decide) (by decide) d_M_behind_143
              · -- 121: False
                have zn0 := c_121
                refine lv_aload_n hx hb d_M_behind_124 rfl (lv_at hl 5 rfl) ?_
                refine lv_iload hx hb d_M_behind_125 (lv_at hl 1 rfl) ?_
                refine lv_iconst (v := (-1)) hx hb d_M_behind_127 (by decide) ?_
                refine lv_icmp_ne (tgt := 138) hx hb d_M_behind_128 (by decide) (fun c_128 => ?_) (fun c_128 => ?_)
                · -- 128: True
                  refine lv_iload_n hx hb d_M_behind_138 rfl (lv_at hl 6 rfl) ?_
                  refine z_callV (n := 1) (As := [.int (nI b9)]) (rest := []) ⟨hx, hb, hml, hown, hts⟩ (m_fail l g h1 f1_mo) (z_in k_914 rfl) (z_in k_7 rfl) (z_in k_911 rfl) (z_in k_913 rfl) (z_in ks_32 rfl) (by decide +kernel) ⟨by first | exact Nat.le_of_ble_eq_true rfl | (dsimp only; omega) | omega, by first | exact Nat.le_of_ble_eq_true rfl | (dsimp only; omega) | omega⟩ hK hE hw hA rfl f1_mo rfl hl.1 (Nat.le_of_ble_eq_true rfl) d_M_behind_139 ⟨by first | exact Nat.le_of_ble_eq_true rfl | (dsimp only; omega) | omega, by first | exact Nat.le_of_ble_eq_true rfl | (dsimp only; omega) | omega⟩ rfl (fun r9 h9 H locs hp hw => ?_)
                  obtain ⟨r8, hh60⟩ := hp
                  subst r8
                  obtain ⟨h60, e8⟩ : ∃ x9, x9 = h9 := ⟨_, rfl⟩
                  subst e8
                  have f60_mo : h60 mo = some ((20, 0), .inr (11, mF ma cod tpd (nI n) fls cls9 ffl fcl nds sai ous (nI ((b9 + 1) + 1)) (nI b9))) := by rw [← hh60]; exact z_put_eq
                  have f60_ma_1 : h60 (ma 1) = some ((22, 0), .inl (g.2.1 1, 4000, .inl f)) := by rw [← hh60]; exact z_keep f1_mo f1_ma_1 (z_t1 (by decide))
                  refine W.eq (g2 := F0 m 142 ls []) rfl ?_
                  refine lv_iconst (v := 0) hx hb d_M_behind_142 (by decide) ?_
                  exact z_iret hx hb hr hlocks hw (by unfold escP; rw [show escR t n b9 = .inl (b9) by unfold escR; rw [if_neg (fun z => z.elim c_33 (fun z => c_39 z)), if_neg (fun z => z c_47), if_pos (show zh (bt t n (b9 + 2)) = -1 by simpa using zn0), if_neg c_128]]; exact ⟨(b9 + 1) + 1, by omega, by omega, rfl, by rw [← hh60, ← hh1, z_put_put]⟩) (by decide) (by decide) d_M_behind_143
                · -- 128: False
                  refine lv_aload_n hx hb d_M_behind_131 rfl (lv_at hl 5 rfl) ?_
                  refine z_get hx hb hts (z_lay i_M) hown hK hw f1_mo rfl 4 (by decide) (z_in k_775 rfl) (fun _ h9 => h9) rfl d_M_behind_132 ?_
                  refine lv_goto (tgt := 139) hx hb d_M_behind_135 (by decide) ?_
                  refine z_callV (n := 1) (As := [.int (nI n)]) (rest := []) ⟨hx, hb, hml, hown, hts⟩ (m_fail l g h1 f1_mo) (z_in k_914 rfl) (z_in k_7 rfl) (z_in k_911 rfl) (z_in k_913 rfl) (z_in ks_32 rfl) (by decide +kernel) ⟨by first | exact Nat.le_of_ble_eq_true rfl | (dsimp only; omega) | omega, by first | exact Nat.le_of_ble_eq_true rfl | (dsimp only; omega) | omega⟩ hK hE hw hA rfl f1_mo rfl hl.1 (Nat.le_of_ble_eq_true rfl) d_M_behind_139 ⟨by first | exact Nat.le_of_ble_eq_true rfl | (dsimp only; omega) | omega, by first | exact Nat.le_of_ble_eq_true rfl | (dsimp only; omega) | omega⟩ rfl (fun r9 h9 H locs hp hw => ?_)
                  obtain ⟨r8, hh61⟩ := hp
                  subst r8
                  obtain ⟨h61, e8⟩ : ∃ x9, x9 = h9 := ⟨_, rfl⟩
                  subst e8
                  have f61_mo : h61 mo = some ((20, 0), .inr (11, mF ma cod tpd (nI n) fls cls9 ffl fcl nds sai ous (nI ((b9 + 1) + 1)) (nI n))) := by rw [← hh61]; exact z_put_eq
                  have f61_ma_1 : h61 (ma 1) = some ((22, 0), .inl (g.2.1 1, 4000, .inl f)) := by rw [← hh61]; exact z_keep f1_mo f1_ma_1 (z_t1 (by decide))
                  refine W.eq (g2 := F0 m 142 ls []) rfl ?_
                  refine lv_iconst (v := 0) hx hb d_M_behind_142 (by decide) ?_
                  exact z_iret hx hb hr hlocks hw (by unfold escP; rw [show escR t n b9 = .inl (n) by unfold escR; rw [if_neg (fun z => z.elim c_33 (fun z => c_39 z)), if_neg (fun z => z c_47), if_pos (show zh (bt t n (b9 + 2)) = -1 by simpa using zn0), if_pos (by simpa using c_128)]]; exact ⟨(b9 + 1) + 1, by omega, by omega, rfl, by rw [← hh61, ← hh1, z_put_put]⟩) (by decide) (by decide) d_M_behind_143
        · -- 47: False
          refine lv_aload_n hx hb d_M_behind_50 rfl (lv_at hl 1 rfl) ?_
          refine lv_iload_n hx hb d_M_behind_51 rfl (lv_at hl 2 rfl) ?_
          refine z_callV (n := 1) (As := [.int (nI b9)]) (rest := []) ⟨hx, hb, hml, hown, hts⟩ (m_fail l g h1 f1_mo) (z_in k_914 rfl) (z_in k_7 rfl) (z_in k_911 rfl) (z_in k_913 rfl) (z_in ks_32 rfl) (by decide +kernel) ⟨by first | exact Nat.le_of_ble_eq_true rfl | (dsimp only; omega) | omega, by first | exact Nat.le_of_ble_eq_true rfl | (dsimp only; omega) | omega⟩ hK hE hw hA rfl f1_mo rfl hl.1 (Nat.le_of_ble_eq_true rfl) d_M_behind_52 ⟨by first | exact Nat.le_of_ble_eq_true rfl | (dsimp only; omega) | omega, by first | exact Nat.le_of_ble_eq_true rfl | (dsimp only; omega) | omega⟩ rfl (fun r9 h9 H locs hp hw => ?_)
          obtain ⟨r8, hh62⟩ := hp
          subst r8
          obtain ⟨h62, e8⟩ : ∃ x9, x9 = h9 := ⟨_, rfl⟩
          subst e8
          have f62_mo : h62 mo = some ((20, 0), .inr (11, mF ma cod tpd (nI n) fls cls9 ffl fcl nds sai ous (nI ((b9 + 1) + 1)) (nI b9))) := by rw [← hh62]; exact z_put_eq
          have f62_ma_1 : h62 (ma 1) = some ((22, 0), .inl (g.2.1 1, 4000, .inl f)) := by rw [← hh62]; exact z_keep f1_mo f1_ma_1 (z_t1 (by decide))
          refine W.eq (g2 := F0 m 55 ls []) rfl ?_
          refine lv_iconst (v := 0) hx hb d_M_behind_55 (by decide) ?_
          exact z_iret hx hb hr hlocks hw (by unfold escP; rw [show escR t n b9 = .inl (b9) by unfold escR; rw [if_neg (fun z => z.elim c_33 (fun z => c_39 z)), if_pos c_47, if_neg c_7]]; exact ⟨(b9 + 1) + 1, by omega, by omega, rfl, by rw [← hh62, ← hh1, z_put_put]⟩) (by decide) (by decide) d_M_behind_56
      · -- 39: False
        refine lv_iload_n hx hb d_M_behind_42 rfl (lv_at hl 0 rfl) ?_
        exact z_iret hx hb hr hlocks hw (by unfold escP; rw [show escR t n b9 = .inr (bt t n (b9 + 1), b9 + 2) by unfold escR; rw [if_pos (Or.inr (by simpa using c_39))]]; exact ⟨rfl, by rw [← hh1]⟩) (by decide) (by decide) d_M_behind_43
  · -- 7: False
    refine lv_aload_n hx hb d_M_behind_10 rfl (lv_at hl 1 rfl) ?_
    refine lv_aload_n hx hb d_M_behind_11 rfl (lv_at hl 1 rfl) ?_
    refine z_get hx hb hts (z_lay i_M) hown hK hw hmo rfl 4 (by decide) (z_in k_775 rfl) (fun _ h9 => h9) rfl d_M_behind_12 ?_
    refine z_callV (n := 1) (As := [.int (nI n)]) (rest := []) ⟨hx, hb, hml, hown, hts⟩ (m_fail l g h hmo) (z_in k_914 rfl) (z_in k_7 rfl) (z_in k_911 rfl) (z_in k_913 rfl) (z_in ks_32 rfl) (by decide +kernel) ⟨by first | exact Nat.le_of_ble_eq_true rfl | (dsimp only; omega) | omega, by first | exact Nat.le_of_ble_eq_true rfl | (dsimp only; omega) | omega⟩ hK hE hw hA rfl hmo rfl hl.1 (Nat.le_of_ble_eq_true rfl) d_M_behind_15 ⟨by first | exact Nat.le_of_ble_eq_true rfl | (dsimp only; omega) | omega, by first | exact Nat.le_of_ble_eq_true rfl | (dsimp only; omega) | omega⟩ rfl (fun r9 h9 H locs hp hw => ?_)
    obtain ⟨r8, hh63⟩ := hp
    subst r8
    obtain ⟨h63, e8⟩ : ∃ x9, x9 = h9 := ⟨_, rfl⟩
    subst e8
    have f63_mo : h63 mo = some ((20, 0), .inr (11, mF ma cod tpd (nI n) fls cls9 ffl fcl nds sai ous (nI (b9 + 1)) (nI n))) := by rw [← hh63]; exact z_put_eq
    have f63_ma_1 : h63 (ma 1) = some ((22, 0), .inl (g.2.1 1, 4000, .inl f)) := by rw [← hh63]; exact z_keep hmo htx (z_t1 (by decide))
    refine W.eq (g2 := F0 m 18 ls []) rfl ?_
    refine lv_iconst (v := 0) hx hb d_M_behind_18 (by decide) ?_
    exact z_iret hx hb hr hlocks hw (by unfold escP; rw [show escR t n b9 = .inl (n) by unfold escR; rw [if_neg (fun z => by rw [show bt t n (b9 + 1) = -1 by simpa using c_7] at z; rcases z with z | z <;> exact absurd z (by decide)), if_pos (by rw [show bt t n (b9 + 1) = -1 by simpa using c_7]; decide), if_pos (by simpa using c_7)]]; exact ⟨b9 + 1, by omega, by omega, rfl, by rw [← hh63]⟩) (by decide) (by decide) d_M_behind_19

set_option maxHeartbeats 300000 in
set_option maxRecDepth 100000 in
theorem x_init (l : Launch) (g : z_G) (h : z_H) {xo : Nat} (hxo : h xo = some ((1, 0), .inr (0, [.null, .null, .null, .null, .null])))  : z_C l y_X_init prog_1_method_1_code 1 (Option.none : Option Jvm.ClassFile.FieldType) 5 100 20 10000 g [.ref xo] h (fun x h1 => x = none ∧ XAt g h1 xo [] sch0 rec0 [] 0 ∧ z_K KXr h h1) := by
  refine z_C.of (by decide) (Nat.le_of_ble_eq_true rfl) (fun pg en s m below meth cd A ls hx hb hml hr hts hown hlocks hnm hK hE hA hw hl => ?_)
  have hl : lv_has ls 1 [(0, .ref xo)] := hl
  have kk0 : z_K (fun y => y < 20 ∨ 40 ≤ y) h h := z_K.rf
  refine lv_aload_n hx hb d_X_init_0 rfl (lv_at hl 0 rfl) ?_
  refine W.objInit hx hb hown (hts _ (z_in k_25 rfl)) (hts _ (z_in k_26 rfl)) (hts _ (z_in k_27 rfl)) rfl (by rw [hml]; exact hl.1) rfl d_X_init_1 (Nat.le_of_ble_eq_true rfl) (Nat.le_of_ble_eq_true rfl) ?_
  refine W.eq (g2 := F0 m 4 ls []) rfl ?_
  refine lv_aload_n hx hb d_X_init_4 rfl (lv_at hl 0 rfl) ?_
  refine z_new (ci := 1) (fs := [.null, .int 0]) hx hb hts (z_lay i_Tape) t_Tape t_Tape_ok hown (z_in k_28 rfl) (z_in k_29 rfl) (z_in k_2 rfl) hK hw hA rfl (fun j hj => by rcases (show j = 0 ∨ j = 1 by omega) with rfl | rfl <;> rfl) (by first | exact Nat.le_of_ble_eq_true rfl | (dsimp only; omega) | omega) (by first | exact Nat.le_of_ble_eq_true rfl | (dsimp only; omega) | omega) d_X_init_5 (2, 0) (fun tp H n_tp hw => ?_)
  obtain ⟨h1, hh1⟩ : ∃ x9, z_put h tp (2, 0) (.inr (1, [.null, .int 0])) = x9 := ⟨_, rfl⟩
  have hw : z_S g A s.heap h1 H [] := by rw [← hh1]; exact hw
  have ne_xo_tp : z_NE xo tp := (show xo ≠ tp from fun z => by have z2 := hxo; rw [z, n_tp] at z2; cases z2)
  have f1_xo : h1 xo = some ((1, 0), .inr (0, [.null, .null, .null, .null, .null])) := by rw [← hh1]; exact z_keepN n_tp hxo
  have f1_tp : h1 tp = some ((2, 0), .inr (1, [.null, .int 0])) := by rw [← hh1]; exact z_put_eq
  have kk1 : z_K (fun y => y < 20 ∨ 40 ≤ y) h h1 := kk0.tr (by rw [← hh1]; exact z_K.new n_tp)
  refine lv_dup hx hb d_X_init_8 rfl ?_
  refine z_callIN (n := 0) (As := []) (rest := [.ref tp, .ref xo]) ⟨hx, hb, hml, hown, hts⟩ (c_Tape_init l g h1 f1_tp (by decide)) (z_in k_32 rfl) (z_in k_2 rfl) hE.nest (z_inN k_30 rfl) (z_in k_31 rfl) rfl (by decide +kernel) ⟨by first | exact Nat.le_of_ble_eq_true rfl | (dsimp only; omega) | omega, by first | exact Nat.le_of_ble_eq_true rfl | (dsimp only; omega) | omega⟩ hK hE hw hA rfl hl.1 (Nat.le_of_ble_eq_true rfl) d_X_init_9 ⟨by first | exact Nat.le_of_ble_eq_true rfl | (dsimp only; omega) | omega, by first | exact Nat.le_of_ble_eq_true rfl | (dsimp only; omega) | omega⟩ rfl (fun r9 h9 H locs hp hw => ?_)
  obtain ⟨b, r8, nb, hbC, htC, k8⟩ := hp
  subst r8
  obtain ⟨h2, e7⟩ : ∃ x9, x9 = h9 := ⟨_, rfl⟩
  subst e7
  have k8 : z_K (fun y => y = 2) _ _ := k8
  have g2_xo : h2 xo = some ((1, 0), .inr (0, [.null, .null, .null, .null, .null])) := k8 _ _ _ f1_xo (by simp; try omega)
  have kk2 : z_K (fun y => y < 20 ∨ 40 ≤ y) h h2 := kk1.tr (k8.mono (fun y z => by omega))
  refine W.eq (g2 := F0 m 12 ls [.ref tp, .ref xo]) rfl ?_
  refine z_putF (ty := .object "SchemaRecords$Tape") hx hb hts (z_lay i_X) t_X t_X_ok n_X hown hK hw g2_xo rfl 0 (by decide) (z_in k_146 rfl) (fun _ h9 => h9) rfl hnm rfl (by decide +kernel) rfl rfl (Nat.le_of_ble_eq_true rfl) d_X_init_12 (fun H locs hw => ?_)
  obtain ⟨h3, hh3⟩ : ∃ x9, z_put h2 xo (1, 0) (.inr (0, [.ref tp, .null, .null, .null, .null])) = x9 := ⟨_, rfl⟩
  have hw : z_S g A s.heap h3 H locs := by rw [← hh3]; exact hw
  have f3_xo : h3 xo = some ((1, 0), .inr (0, [.ref tp, .null, .null, .null, .null])) := by rw [← hh3]; exact z_put_eq
  have f3_tp : h3 tp = some ((2, 0), .inr (1, [.ref b, .int 0])) := by rw [← hh3]; exact (z_put_ne (Ne.symm ne_xo_tp)).trans htC
  have f3_b : h3 b = some ((3, 0), .inl (g.2.1 0, 4000, .inl (fun _ => 0))) := by rw [← hh3]; exact z_keep g2_xo hbC (z_t1 (by decide))
  have kk3 : z_K (fun y => y < 20 ∨ 40 ≤ y) h h3 := kk2.tr (by rw [← hh3]; exact z_K.put g2_xo (by first | decide | simp | omega))
  refine lv_aload_n hx hb d_X_init_15 rfl (lv_at hl 0 rfl) ?_
  refine z_new (ci := 2) (fs := [.null, .int 0]) hx hb hts (z_lay i_ByteRow) t_ByteRow t_ByteRow_ok hown (z_in k_42 rfl) (z_in k_43 rfl) (z_in k_3 rfl) hK hw hA rfl (fun j hj => by rcases (show j = 0 ∨ j = 1 by omega) with rfl | rfl <;> rfl) (by first | exact Nat.le_of_ble_eq_true rfl | (dsimp only; omega) | omega) (by first | exact Nat.le_of_ble_eq_true rfl | (dsimp only; omega) | omega) d_X_init_16 (4, 0) (fun ow H n_ow hw => ?_)
  obtain ⟨h4, hh4⟩ : ∃ x9, z_put h3 ow (4, 0) (.inr (2, [.null, .int 0])) = x9 := ⟨_, rfl⟩
  have hw : z_S g A s.heap h4 H locs := by rw [← hh4]; exact hw
  have ne_xo_ow : z_NE xo ow := (show xo ≠ ow from fun z => by have z2 := f3_xo; rw [z, n_ow] at z2; cases z2)
  have ne_tp_ow : z_NE tp ow := (show tp ≠ ow from fun z => by have z2 := f3_tp; rw [z, n_ow] at z2; cases z2)
  have ne_b_ow : z_NE b ow := (show b ≠ ow from fun z => by have z2 := f3_b; rw [z, n_ow] at z2; cases z2)
  have f4_xo : h4 xo = some ((1, 0), .inr (0, [.ref tp, .null, .null, .null, .null])) := by rw [← hh4]; exact z_keepN n_ow f3_xo
  have f4_tp : h4 tp = some ((2, 0), .inr (1, [.ref b, .int 0])) := by rw [← hh4]; exact z_keepN n_ow f3_tp
  have f4_b : h4 b = some ((3, 0), .inl (g.2.1 0, 4000, .inl (fun _ => 0))) := by rw [← hh4]; exact z_keepN n_ow f3_b
  have f4_ow : h4 ow = some ((4, 0), .inr (2, [.null, .int 0])) := by rw [← hh4]; exact z_put_eq
  have kk4 : z_K (fun y => y < 20 ∨ 40 ≤ y) h h4 := kk3.tr (by rw [← hh4]; exact z_K.new n_ow)
  refine lv_dup hx hb d_X_init_19 rfl ?_
  refine z_callIN (n := 0) (As := []) (rest := [.ref ow, .ref xo]) ⟨hx, hb, hml, hown, hts⟩ (c_ByteRow_init l g h4 f4_ow) (z_in k_46 rfl) (z_in k_3 rfl) hE.nest (z_inN k_44 rfl) (z_in k_45 rfl) rfl (by decide +kernel) ⟨by first | exact Nat.le_of_ble_eq_true rfl | (dsimp only; omega) | omega, by first | exact Nat.le_of_ble_eq_true rfl | (dsimp only; omega) | omega⟩ hK hE hw hA rfl hl.1 (Nat.le_of_ble_eq_true rfl) d_X_init_20 ⟨by first | exact Nat.le_of_ble_eq_true rfl | (dsimp only; omega) | omega, by first | exact Nat.le_of_ble_eq_true rfl | (dsimp only; omega) | omega⟩ rfl (fun r9 h9 H locs hp hw => ?_)
  obtain ⟨ob, r8, nb2, hobC, howC, k8⟩ := hp
  subst r8
  obtain ⟨h5, e7⟩ : ∃ x9, x9 = h9 := ⟨_, rfl⟩
  subst e7
  have k8 : z_K (fun y => y = 4) _ _ := k8
  have g5_xo : h5 xo = some ((1, 0), .inr (0, [.ref tp, .null, .null, .null, .null])) := k8 _ _ _ f4_xo (by simp; try omega)
  have g5_tp : h5 tp = some ((2, 0), .inr (1, [.ref b, .int 0])) := k8 _ _ _ f4_tp (by simp; try omega)
  have g5_b : h5 b = some ((3, 0), .inl (g.2.1 0, 4000, .inl (fun _ => 0))) := k8 _ _ _ f4_b (by simp; try omega)
  have kk5 : z_K (fun y => y < 20 ∨ 40 ≤ y) h h5 := kk4.tr (k8.mono (fun y z => by omega))
  refine W.eq (g2 := F0 m 23 ls [.ref ow, .ref xo]) rfl ?_
  refine z_putF (ty := .object "SchemaRecords$ByteRow") hx hb hts (z_lay i_X) t_X t_X_ok n_X hown hK hw g5_xo rfl 1 (by decide) (z_in k_147 rfl) (fun _ h9 => h9) rfl hnm rfl (by decide +kernel) rfl rfl (Nat.le_of_ble_eq_true rfl) d_X_init_23 (fun H locs hw => ?_)
  obtain ⟨h6, hh6⟩ : ∃ x9, z_put h5 xo (1, 0) (.inr (0, [.ref tp, .ref ow, .null, .null, .null])) = x9 := ⟨_, rfl⟩
  have hw : z_S g A s.heap h6 H locs := by rw [← hh6]; exact hw
  have f6_xo : h6 xo = some ((1, 0), .inr (0, [.ref tp, .ref ow, .null, .null, .null])) := by rw [← hh6]; exact z_put_eq
  have f6_tp : h6 tp = some ((2, 0), .inr (1, [.ref b, .int 0])) := by rw [← hh6]; exact (z_put_ne (Ne.symm ne_xo_tp)).trans g5_tp
  have f6_b : h6 b = some ((3, 0), .inl (g.2.1 0, 4000, .inl (fun _ => 0))) := by rw [← hh6]; exact z_keep g5_xo g5_b (z_t1 (by decide))
  have f6_ow : h6 ow = some ((4, 0), .inr (2, [.ref ob, .int 0])) := by rw [← hh6]; exact (z_put_ne (Ne.symm ne_xo_ow)).trans howC
  have f6_ob : h6 ob = some ((5, 0), .inl (g.2.1 0, 1024, .inl (fun _ => 0))) := by rw [← hh6]; exact z_keep g5_xo hobC (z_t1 (by decide))
  have kk6 : z_K (fun y => y < 20 ∨ 40 ≤ y) h h6 := kk5.tr (by rw [← hh6]; exact z_K.put g5_xo (by first | decide | simp | omega))
  refine lv_aload_n hx hb d_X_init_26 rfl (lv_at hl 0 rfl) ?_
  refine z_new (ci := 3) (fs := [.null, .null, .int 0, .int 0, .int 0]) hx hb hts (z_lay i_Schema) t_Schema t_Schema_ok hown (z_in k_56 rfl) (z_in k_57 rfl) (z_in k_4 rfl) hK hw hA rfl (fun j hj => by rcases (show j = 0 ∨ j = 1 ∨ j = 2 ∨ j = 3 ∨ j = 4 by omega) with rfl | rfl | rfl | rfl | rfl <;> rfl) (by first | exact Nat.le_of_ble_eq_true rfl | (dsimp only; omega) | omega) (by first | exact Nat.le_of_ble_eq_true rfl | (dsimp only; omega) | omega) d_X_init_27 (100, 0) (fun kn H n_kn hw => ?_)
  obtain ⟨h7, hh7⟩ : ∃ x9, z_put h6 kn (100, 0) (.inr (3, [.null, .null, .int 0, .int 0, .int 0])) = x9 := ⟨_, rfl⟩
  have hw : z_S g A s.heap h7 H locs := by rw [← hh7]; exact hw
  have ne_xo_kn : z_NE xo kn := (show xo ≠ kn from fun z => by have z2 := f6_xo; rw [z, n_kn] at z2; cases z2)
  have ne_tp_kn : z_NE tp kn := (show tp ≠ kn from fun z => by have z2 := f6_tp; rw [z, n_kn] at z2; cases z2)
  have ne_b_kn : z_NE b kn := (show b ≠ kn from fun z => by have z2 := f6_b; rw [z, n_kn] at z2; cases z2)
  have ne_ow_kn : z_NE ow kn := (show ow ≠ kn from fun z => by have z2 := f6_ow; rw [z, n_kn] at z2; cases z2)
  have ne_ob_kn : z_NE ob kn := (show ob ≠ kn from fun z => by have z2 := f6_ob; rw [z, n_kn] at z2; cases z2)
  have f7_xo : h7 xo = some ((1, 0), .inr (0, [.ref tp, .ref ow, .null, .null, .null])) := by rw [← hh7]; exact z_keepN n_kn f6_xo
  have f7_tp : h7 tp = some ((2, 0), .inr (1, [.ref b, .int 0])) := by rw [← hh7]; exact z_keepN n_kn f6_tp
  have f7_b : h7 b = some ((3, 0), .inl (g.2.1 0, 4000, .inl (fun _ => 0))) := by rw [← hh7]; exact z_keepN n_kn f6_b
  have f7_ow : h7 ow = some ((4, 0), .inr (2, [.ref ob, .int 0])) := by rw [← hh7]; exact z_keepN n_kn f6_ow
  have f7_ob : h7 ob = some ((5, 0), .inl (g.2.1 0, 1024, .inl (fun _ => 0))) := by rw [← hh7]; exact z_keepN n_kn f6_ob
  have f7_kn : h7 kn = some ((100, 0), .inr (3, [.null, .null, .int 0, .int 0, .int 0])) := by rw [← hh7]; exact z_put_eq
  have kk7 : z_K (fun y => y < 20 ∨ 40 ≤ y) h h7 := kk6.tr (by rw [← hh7]; exact z_K.new n_kn)
  refine lv_dup hx hb d_X_init_30 rfl ?_
  refine z_callIN (n := 0) (As := []) (rest := [.ref kn, .ref xo]) ⟨hx, hb, hml, hown, hts⟩ (c_Schema_init (r := 100) l g h7 f7_kn) (z_in k_60 rfl) (z_in k_4 rfl) hE.nest (z_inN k_58 rfl) (z_in k_59 rfl) rfl (by decide +kernel) ⟨by first | exact Nat.le_of_ble_eq_true rfl | (dsimp only; omega) | omega, by first | exact Nat.le_of_ble_eq_true rfl | (dsimp only; omega) | omega⟩ hK hE hw hA rfl hl.1 (Nat.le_of_ble_eq_true rfl) d_X_init_31 ⟨by first | exact Nat.le_of_ble_eq_true rfl | (dsimp only; omega) | omega, by first | exact Nat.le_of_ble_eq_true rfl | (dsimp only; omega) | omega⟩ rfl (fun r9 h9 H locs hp hw => ?_)
  obtain ⟨fa2, ca2, r8, hq2, hfa2, hca2, k8⟩ := hp
  subst r8
  obtain ⟨h8, e7⟩ : ∃ x9, x9 = h9 := ⟨_, rfl⟩
  subst e7
  have g8_xo : h8 xo = some ((1, 0), .inr (0, [.ref tp, .ref ow, .null, .null, .null])) := k8 _ _ _ f7_xo (by simp; try omega)
  have g8_tp : h8 tp = some ((2, 0), .inr (1, [.ref b, .int 0])) := k8 _ _ _ f7_tp (by simp; try omega)
  have g8_b : h8 b = some ((3, 0), .inl (g.2.1 0, 4000, .inl (fun _ => 0))) := k8 _ _ _ f7_b (by simp; try omega)
  have g8_ow : h8 ow = some ((4, 0), .inr (2, [.ref ob, .int 0])) := k8 _ _ _ f7_ow (by simp; try omega)
  have g8_ob : h8 ob = some ((5, 0), .inl (g.2.1 0, 1024, .inl (fun _ => 0))) := k8 _ _ _ f7_ob (by simp; try omega)
  have sA0 : SchP g h8 100 kn sch0 fa2 ca2 (fun _ => 0) (fun _ => 0) (fun _ => none) (fun _ => 0) (fun _ _ => 0) := SchP.zero hq2 hfa2 hca2
  have kk8 : z_K (fun y => y < 20 ∨ 40 ≤ y) h h8 := kk7.tr (k8.mono (fun y z => by omega))
  have sg_Sh8 : z_K (fun y => y = 1 ∨ y = 40 ∨ y = 41 ∨ y = 50 ∨ y = 51) h8 h8 := z_K.rf
  refine W.eq (g2 := F0 m 34 ls [.ref kn, .ref xo]) rfl ?_
  refine z_putf (ty := .object "SchemaRecords$Schema") hx hb hts (z_lay i_X) t_X t_X_ok n_X hown hK hw g8_xo rfl 2 (by decide) (z_in k_148 rfl) (fun _ h9 => h9) rfl (by decide +kernel) rfl rfl (Nat.le_of_ble_eq_true rfl) d_X_init_34 (fun H locs hw => ?_)
  obtain ⟨h9, hh9⟩ : ∃ x9, z_put h8 xo (1, 0) (.inr (0, [.ref tp, .ref ow, .ref kn, .null, .null])) = x9 := ⟨_, rfl⟩
  have hw : z_S g A s.heap h9 H locs := by rw [← hh9]; exact hw
  have f9_xo : h9 xo = some ((1, 0), .inr (0, [.ref tp, .ref ow, .ref kn, .null, .null])) := by rw [← hh9]; exact z_put_eq
  have f9_tp : h9 tp = some ((2, 0), .inr (1, [.ref b, .int 0])) := by rw [← hh9]; exact (z_put_ne (Ne.symm ne_xo_tp)).trans g8_tp
  have f9_b : h9 b = some ((3, 0), .inl (g.2.1 0, 4000, .inl (fun _ => 0))) := by rw [← hh9]; exact z_keep g8_xo g8_b (z_t1 (by decide))
  have f9_ow : h9 ow = some ((4, 0), .inr (2, [.ref ob, .int 0])) := by rw [← hh9]; exact (z_put_ne (Ne.symm ne_xo_ow)).trans g8_ow
  have f9_ob : h9 ob = some ((5, 0), .inl (g.2.1 0, 1024, .inl (fun _ => 0))) := by rw [← hh9]; exact z_keep g8_xo g8_ob (z_t1 (by decide))
  have kk9 : z_K (fun y => y < 20 ∨ 40 ≤ y) h h9 := kk8.tr (by rw [← hh9]; exact z_K.put g8_xo (by first | decide | simp | omega))
  have sg_Sh9 : z_K (fun y => y = 1 ∨ y = 40 ∨ y = 41 ∨ y = 50 ∨ y = 51) h8 h9 := sg_Sh8.tr (by rw [← hh9]; exact z_K.put g8_xo (by simp))
  refine lv_aload_n hx hb d_X_init_37 rfl (lv_at hl 0 rfl) ?_
  refine z_new (ci := 5) (fs := [.null, .int 0, .int 0]) hx hb hts (z_lay i_NodeRow) t_NodeRow t_NodeRow_ok hown (z_in k_83 rfl) (z_in k_84 rfl) (z_in k_5 rfl) hK hw hA rfl (fun j hj => by rcases (show j = 0 ∨ j = 1 ∨ j = 2 by omega) with rfl | rfl | rfl <;> rfl) (by first | exact Nat.le_of_ble_eq_true rfl | (dsimp only; omega) | omega) (by first | exact Nat.le_of_ble_eq_true rfl | (dsimp only; omega) | omega) d_X_init_38 (40, 0) (fun pr H n_pr hw => ?_)
  obtain ⟨h10, hh10⟩ : ∃ x9, z_put h9 pr (40, 0) (.inr (5, [.null, .int 0, .int 0])) = x9 := ⟨_, rfl⟩
  have hw : z_S g A s.heap h10 H locs := by rw [← hh10]; exact hw
  have ne_xo_pr : z_NE xo pr := (show xo ≠ pr from fun z => by have z2 := f9_xo; rw [z, n_pr] at z2; cases z2)
  have ne_tp_pr : z_NE tp pr := (show tp ≠ pr from fun z => by have z2 := f9_tp; rw [z, n_pr] at z2; cases z2)
  have ne_b_pr : z_NE b pr := (show b ≠ pr from fun z => by have z2 := f9_b; rw [z, n_pr] at z2; cases z2)
  have ne_ow_pr : z_NE ow pr := (show ow ≠ pr from fun z => by have z2 := f9_ow; rw [z, n_pr] at z2; cases z2)
  have ne_ob_pr : z_NE ob pr := (show ob ≠ pr from fun z => by have z2 := f9_ob; rw [z, n_pr] at z2; cases z2)
  have f10_xo : h10 xo = some ((1, 0), .inr (0, [.ref tp, .ref ow, .ref kn, .null, .null])) := by rw [← hh10]; exact z_keepN n_pr f9_xo
  have f10_tp : h10 tp = some ((2, 0), .inr (1, [.ref b, .int 0])) := by rw [← hh10]; exact z_keepN n_pr f9_tp
  have f10_b : h10 b = some ((3, 0), .inl (g.2.1 0, 4000, .inl (fun _ => 0))) := by rw [← hh10]; exact z_keepN n_pr f9_b
  have f10_ow : h10 ow = some ((4, 0), .inr (2, [.ref ob, .int 0])) := by rw [← hh10]; exact z_keepN n_pr f9_ow
  have f10_ob : h10 ob = some ((5, 0), .inl (g.2.1 0, 1024, .inl (fun _ => 0))) := by rw [← hh10]; exact z_keepN n_pr f9_ob
  have f10_pr : h10 pr = some ((40, 0), .inr (5, [.null, .int 0, .int 0])) := by rw [← hh10]; exact z_put_eq
  have kk10 : z_K (fun y => y < 20 ∨ 40 ≤ y) h h10 := kk9.tr (by rw [← hh10]; exact z_K.new n_pr)
  have sg_Sh10 : z_K (fun y => y = 1 ∨ y = 40 ∨ y = 41 ∨ y = 50 ∨ y = 51) h8 h10 := sg_Sh9.tr (by rw [← hh10]; exact z_K.new n_pr)
  refine lv_dup hx hb d_X_init_41 rfl ?_
  refine z_callI (n := 0) (As := []) (rest := [.ref pr, .ref xo]) ⟨hx, hb, hml, hown, hts⟩ (c_NodeRow_init (mr := 40) l g h10 f10_pr) (z_in k_87 rfl) (z_in k_5 rfl) (z_in k_85 rfl) (z_in k_86 rfl) rfl (by decide +kernel) ⟨by first | exact Nat.le_of_ble_eq_true rfl | (dsimp only; omega) | omega, by first | exact Nat.le_of_ble_eq_true rfl | (dsimp only; omega) | omega⟩ hK hE hw hA rfl hl.1 (Nat.le_of_ble_eq_true rfl) d_X_init_42 ⟨by first | exact Nat.le_of_ble_eq_true rfl | (dsimp only; omega) | omega, by first | exact Nat.le_of_ble_eq_true rfl | (dsimp only; omega) | omega⟩ rfl (fun r9 h9 H locs hp hw => ?_)
  obtain ⟨ra_pr, ad_pr, tx_pr, rf_pr, tf_pr, r8, nC_pr, kC⟩ := hp
  subst r8
  obtain ⟨h11, e7⟩ : ∃ x9, x9 = h9 := ⟨_, rfl⟩
  subst e7
  have g11_xo : h11 xo = some ((1, 0), .inr (0, [.ref tp, .ref ow, .ref kn, .null, .null])) := kC _ _ _ f10_xo (by simp; try omega)
  have g11_tp : h11 tp = some ((2, 0), .inr (1, [.ref b, .int 0])) := kC _ _ _ f10_tp (by simp; try omega)
  have g11_b : h11 b = some ((3, 0), .inl (g.2.1 0, 4000, .inl (fun _ => 0))) := kC _ _ _ f10_b (by simp; try omega)
  have g11_ow : h11 ow = some ((4, 0), .inr (2, [.ref ob, .int 0])) := kC _ _ _ f10_ow (by simp; try omega)
  have g11_ob : h11 ob = some ((5, 0), .inl (g.2.1 0, 1024, .inl (fun _ => 0))) := kC _ _ _ f10_ob (by simp; try omega)
  have kC2 := kC.K (R := fun y => y = 40 ∨ y = 41) (fun t z => by rcases z with z | z | z <;> simp [z])
  have kk11 : z_K (fun y => y < 20 ∨ 40 ≤ y) h h11 := kk10.tr (kC2.mono (fun y z => by omega))
  have sg_Sh11 : z_K (fun y => y = 1 ∨ y = 40 ∨ y = 41 ∨ y = 50 ∨ y = 51) h8 h11 := sg_Sh10.tr (kC2.mono (fun y z => by omega))
  have sg_Nh11 : z_K (fun y => y = 1 ∨ y = 50 ∨ y = 51) h11 h11 := z_K.rf
  refine W.eq (g2 := F0 m 45 ls [.ref pr, .ref xo]) rfl ?_
  refine z_putf (ty := .object "SchemaRecords$NodeRow") hx hb hts (z_lay i_X) t_X t_X_ok n_X hown hK hw g11_xo rfl 3 (by decide) (z_in k_149 rfl) (fun _ h9 => h9) rfl (by decide +kernel) rfl rfl (Nat.le_of_ble_eq_true rfl) d_X_init_45 (fun H locs hw => ?_)
  obtain ⟨h12, hh12⟩ : ∃ x9, z_put h11 xo (1, 0) (.inr (0, [.ref tp, .ref ow, .ref kn, .ref pr, .null])) = x9 := ⟨_, rfl⟩
  have hw : z_S g A s.heap h12 H locs := by rw [← hh12]; exact hw
  have f12_xo : h12 xo = some ((1, 0), .inr (0, [.ref tp, .ref ow, .ref kn, .ref pr, .null])) := by rw [← hh12]; exact z_put_eq
  have f12_tp : h12 tp = some ((2, 0), .inr (1, [.ref b, .int 0])) := by rw [← hh12]; exact (z_put_ne (Ne.symm ne_xo_tp)).trans g11_tp
  have f12_b : h12 b = some ((3, 0), .inl (g.2.1 0, 4000, .inl (fun _ => 0))) := by rw [← hh12]; exact z_keep g11_xo g11_b (z_t1 (by decide))
  have f12_ow : h12 ow = some ((4, 0), .inr (2, [.ref ob, .int 0])) := by rw [← hh12]; exact (z_put_ne (Ne.symm ne_xo_ow)).trans g11_ow
  have f12_ob : h12 ob = some ((5, 0), .inl (g.2.1 0, 1024, .inl (fun _ => 0))) := by rw [← hh12]; exact z_keep g11_xo g11_ob (z_t1 (by decide))
  have kk12 : z_K (fun y => y < 20 ∨ 40 ≤ y) h h12 := kk11.tr (by rw [← hh12]; exact z_K.put g11_xo (by first | decide | simp | omega))
  have sg_Sh12 : z_K (fun y => y = 1 ∨ y = 40 ∨ y = 41 ∨ y = 50 ∨ y = 51) h8 h12 := sg_Sh11.tr (by rw [← hh12]; exact z_K.put g11_xo (by simp))
  have sg_Nh12 : z_K (fun y => y = 1 ∨ y = 50 ∨ y = 51) h11 h12 := sg_Nh11.tr (by rw [← hh12]; exact z_K.put g11_xo (by simp))
  refine lv_aload_n hx hb d_X_init_48 rfl (lv_at hl 0 rfl) ?_
  refine z_new (ci := 5) (fs := [.null, .int 0, .int 0]) hx hb hts (z_lay i_NodeRow) t_NodeRow t_NodeRow_ok hown (z_in k_83 rfl) (z_in k_84 rfl) (z_in k_5 rfl) hK hw hA rfl (fun j hj => by rcases (show j = 0 ∨ j = 1 ∨ j = 2 by omega) with rfl | rfl | rfl <;> rfl) (by first | exact Nat.le_of_ble_eq_true rfl | (dsimp only; omega) | omega) (by first | exact Nat.le_of_ble_eq_true rfl | (dsimp only; omega) | omega) d_X_init_49 (50, 0) (fun sp H n_sp hw => ?_)
  obtain ⟨h13, hh13⟩ : ∃ x9, z_put h12 sp (50, 0) (.inr (5, [.null, .int 0, .int 0])) = x9 := ⟨_, rfl⟩
  have hw : z_S g A s.heap h13 H locs := by rw [← hh13]; exact hw
  have ne_xo_sp : z_NE xo sp := (show xo ≠ sp from fun z => by have z2 := f12_xo; rw [z, n_sp] at z2; cases z2)
  have ne_tp_sp : z_NE tp sp := (show tp ≠ sp from fun z => by have z2 := f12_tp; rw [z, n_sp] at z2; cases z2)
  have ne_b_sp : z_NE b sp := (show b ≠ sp from fun z => by have z2 := f12_b; rw [z, n_sp] at z2; cases z2)
  have ne_ow_sp : z_NE ow sp := (show ow ≠ sp from fun z => by have z2 := f12_ow; rw [z, n_sp] at z2; cases z2)
  have ne_ob_sp : z_NE ob sp := (show ob ≠ sp from fun z => by have z2 := f12_ob; rw [z, n_sp] at z2; cases z2)
  have f13_xo : h13 xo = some ((1, 0), .inr (0, [.ref tp, .ref ow, .ref kn, .ref pr, .null])) := by rw [← hh13]; exact z_keepN n_sp f12_xo
  have f13_tp : h13 tp = some ((2, 0), .inr (1, [.ref b, .int 0])) := by rw [← hh13]; exact z_keepN n_sp f12_tp
  have f13_b : h13 b = some ((3, 0), .inl (g.2.1 0, 4000, .inl (fun _ => 0))) := by rw [← hh13]; exact z_keepN n_sp f12_b
  have f13_ow : h13 ow = some ((4, 0), .inr (2, [.ref ob, .int 0])) := by rw [← hh13]; exact z_keepN n_sp f12_ow
  have f13_ob : h13 ob = some ((5, 0), .inl (g.2.1 0, 1024, .inl (fun _ => 0))) := by rw [← hh13]; exact z_keepN n_sp f12_ob
  have f13_sp : h13 sp = some ((50, 0), .inr (5, [.null, .int 0, .int 0])) := by rw [← hh13]; exact z_put_eq
  have kk13 : z_K (fun y => y < 20 ∨ 40 ≤ y) h h13 := kk12.tr (by rw [← hh13]; exact z_K.new n_sp)
  have sg_Sh13 : z_K (fun y => y = 1 ∨ y = 40 ∨ y = 41 ∨ y = 50 ∨ y = 51) h8 h13 := sg_Sh12.tr (by rw [← hh13]; exact z_K.new n_sp)
  have sg_Nh13 : z_K (fun y => y = 1 ∨ y = 50 ∨ y = 51) h11 h13 := sg_Nh12.tr (by rw [← hh13]; exact z_K.new n_sp)
  refine lv_dup hx hb d_X_init_52 rfl ?_
  refine z_callI (n := 0) (As := []) (rest := [.ref sp, .ref xo]) ⟨hx, hb, hml, hown, hts⟩ (c_NodeRow_init (mr := 50) l g h13 f13_sp) (z_in k_87 rfl) (z_in k_5 rfl) (z_in k_85 rfl) (z_in k_86 rfl) rfl (by decide +kernel) ⟨by first | exact Nat.le_of_ble_eq_true rfl | (dsimp only; omega) | omega, by first | exact Nat.le_of_ble_eq_true rfl | (dsimp only; omega) | omega⟩ hK hE hw hA rfl hl.1 (Nat.le_of_ble_eq_true rfl) d_X_init_53 ⟨by first | exact Nat.le_of_ble_eq_true rfl | (dsimp only; omega) | omega, by first | exact Nat.le_of_ble_eq_true rfl | (dsimp only; omega) | omega⟩ rfl (fun r9 h9 H locs hp hw => ?_)
  obtain ⟨ra_sp, ad_sp, tx_sp, rf_sp, tf_sp, r8, nC_sp, kC⟩ := hp
  subst r8
  obtain ⟨h14, e7⟩ : ∃ x9, x9 = h9 := ⟨_, rfl⟩
  subst e7
  have g14_xo : h14 xo = some ((1, 0), .inr (0, [.ref tp, .ref ow, .ref kn, .ref pr, .null])) := kC _ _ _ f13_xo (by simp; try omega)
  have g14_tp : h14 tp = some ((2, 0), .inr (1, [.ref b, .int 0])) := kC _ _ _ f13_tp (by simp; try omega)
  have g14_b : h14 b = some ((3, 0), .inl (g.2.1 0, 4000, .inl (fun _ => 0))) := kC _ _ _ f13_b (by simp; try omega)
  have g14_ow : h14 ow = some ((4, 0), .inr (2, [.ref ob, .int 0])) := kC _ _ _ f13_ow (by simp; try omega)
  have g14_ob : h14 ob = some ((5, 0), .inl (g.2.1 0, 1024, .inl (fun _ => 0))) := kC _ _ _ f13_ob (by simp; try omega)
  have kC2 := kC.K (R := fun y => y = 50 ∨ y = 51) (fun t z => by rcases z with z | z | z <;> simp [z])
  have kk14 : z_K (fun y => y < 20 ∨ 40 ≤ y) h h14 := kk13.tr (kC2.mono (fun y z => by omega))
  have sg_Sh14 : z_K (fun y => y = 1 ∨ y = 40 ∨ y = 41 ∨ y = 50 ∨ y = 51) h8 h14 := sg_Sh13.tr (kC2.mono (fun y z => by omega))
  have sg_Nh14 : z_K (fun y => y = 1 ∨ y = 50 ∨ y = 51) h11 h14 := sg_Nh13.tr (kC2.mono (fun y z => by omega))
  have sg_Mh14 : z_K (fun y => y = 1) h14 h14 := z_K.rf
  refine W.eq (g2 := F0 m 56 ls [.ref sp, .ref xo]) rfl ?_
  refine z_putf (ty := .object "SchemaRecords$NodeRow") hx hb hts (z_lay i_X) t_X t_X_ok n_X hown hK hw g14_xo rfl 4 (by decide) (z_in k_150 rfl) (fun _ h9 => h9) rfl (by decide +kernel) rfl rfl (Nat.le_of_ble_eq_true rfl) d_X_init_56 (fun H locs hw => ?_)
  obtain ⟨h15, hh15⟩ : ∃ x9, z_put h14 xo (1, 0) (.inr (0, [.ref tp, .ref ow, .ref kn, .ref pr, .ref sp])) = x9 := ⟨_, rfl⟩
  have hw : z_S g A s.heap h15 H locs := by rw [← hh15]; exact hw
  have f15_xo : h15 xo = some ((1, 0), .inr (0, [.ref tp, .ref ow, .ref kn, .ref pr, .ref sp])) := by rw [← hh15]; exact z_put_eq
  have f15_tp : h15 tp = some ((2, 0), .inr (1, [.ref b, .int 0])) := by rw [← hh15]; exact (z_put_ne (Ne.symm ne_xo_tp)).trans g14_tp
  have f15_b : h15 b = some ((3, 0), .inl (g.2.1 0, 4000, .inl (fun _ => 0))) := by rw [← hh15]; exact z_keep g14_xo g14_b (z_t1 (by decide))
  have f15_ow : h15 ow = some ((4, 0), .inr (2, [.ref ob, .int 0])) := by rw [← hh15]; exact (z_put_ne (Ne.symm ne_xo_ow)).trans g14_ow
  have f15_ob : h15 ob = some ((5, 0), .inl (g.2.1 0, 1024, .inl (fun _ => 0))) := by rw [← hh15]; exact z_keep g14_xo g14_ob (z_t1 (by decide))
  have kk15 : z_K (fun y => y < 20 ∨ 40 ≤ y) h h15 := kk14.tr (by rw [← hh15]; exact z_K.put g14_xo (by first | decide | simp | omega))
  have sg_Sh15 : z_K (fun y => y = 1 ∨ y = 40 ∨ y = 41 ∨ y = 50 ∨ y = 51) h8 h15 := sg_Sh14.tr (by rw [← hh15]; exact z_K.put g14_xo (by simp))
  have sg_Nh15 : z_K (fun y => y = 1 ∨ y = 50 ∨ y = 51) h11 h15 := sg_Nh14.tr (by rw [← hh15]; exact z_K.put g14_xo (by simp))
  have sg_Mh15 : z_K (fun y => y = 1) h14 h15 := sg_Mh14.tr (by rw [← hh15]; exact z_K.put g14_xo (by simp))
  exact z_vret hx hb hr hlocks hw ⟨rfl, ⟨tp, b, ow, kn, pr, sp, 100, 40, 50, ra_sp, fun _ => 0, rf_sp, nI 1, nI 0, f15_xo, f15_tp, f15_b, ⟨z_fb0 _, Nat.zero_le _, fun k hk => absurd hk (Nat.not_lt_zero _)⟩, ⟨OutB.nil f15_ow f15_ob rfl (z_fb0 _), Nat.zero_le _⟩, ⟨⟨_, _, _, _, _, _, _, sA0.k sg_Sh15 (by omega) (by omega) (by omega)⟩, by omega, grOK0⟩, ⟨⟨_, _, _, _, _, (nC_pr sch0).k sg_Nh15 (by omega) (by omega) (by omega)⟩, rec0_ok⟩, ⟨sg_Mh15 _ _ _ (nC_sp sch0).1 (by simp), sg_Mh15 _ _ _ (nC_sp sch0).2.1 (by simp)⟩, Or.inl ⟨rfl, rfl⟩⟩, kk15⟩ (by decide) (by decide) d_X_init_59

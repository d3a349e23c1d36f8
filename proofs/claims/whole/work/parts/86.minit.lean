set_option maxHeartbeats 300000 in
set_option maxRecDepth 100000 in
theorem m_init (l : Launch) (g : z_G) (h : z_H) {mo : Nat} (hmo : h mo = some ((20, 0), .inr (11, [.int 0, .null, .null, .int 0, .int 0, .null, .null, .null, .null, .int 0, .int 0, .int 0, .int 0, .null, .null, .null, .null, .null, .int 0, .int 0, .null, .null, .null, .null, .null, .null, .null, .null, .int 0, .int 0, .int 0])))  : z_C l y_M_init prog_13_method_1_code 1 (Option.none : Option Jvm.ClassFile.FieldType) 5 100 40 240000 g [.ref mo] h (fun x h1 => x = none ∧ MAt g h1 mo [] sch0 rec0 [] ∧ z_K KMr h h1) := by
  refine z_C.of (by decide) (Nat.le_of_ble_eq_true rfl) (fun pg en s m below meth cd A ls hx hb hml hr hts hown hlocks hnm hK hE hA hw hl => ?_)
  have hl : lv_has ls 1 [(0, .ref mo)] := hl
  have kk0 : z_K (fun y => 20 ≤ y ∧ y < 40) h h := z_K.rf
  refine lv_aload_n hx hb d_M_init_0 rfl (lv_at hl 0 rfl) ?_
  refine W.objInit hx hb hown (hts _ (z_in k_767 rfl)) (hts _ (z_in k_26 rfl)) (hts _ (z_in k_27 rfl)) rfl (by rw [hml]; exact hl.1) rfl d_M_init_1 (Nat.le_of_ble_eq_true rfl) (Nat.le_of_ble_eq_true rfl) ?_
  refine W.eq (g2 := F0 m 4 ls []) rfl ?_
  refine lv_aload_n hx hb d_M_init_4 rfl (lv_at hl 0 rfl) ?_
  refine lv_sipush (v := 4000) hx hb d_M_init_5 (by decide) ?_
  refine z_newa (atype := .int) (N' := 4000) (a0 := (4000, .inl (fun _ => 0))) hx hb hts (z_in k_82 rfl) hK hw hA 1 rfl rfl (fun C z => by cases z) (fun cA => rfl) (by decide) (by rfl) (by show _ ≤ _; simp [componentBytes]; try omega) (by first | exact Nat.le_of_ble_eq_true rfl | (dsimp only; omega) | omega) (by first | exact Nat.le_of_ble_eq_true rfl | (dsimp only; omega) | omega) d_M_init_8 (21, 0) (fun q_tape H n_q_tape hw => ?_)
  obtain ⟨h1, hh1⟩ : ∃ x9, z_put h q_tape (21, 0) (.inl (g.2.1 1, 4000, .inl (fun _ => 0))) = x9 := ⟨_, rfl⟩
  have hw : z_S g A s.heap h1 H [] := by rw [← hh1]; exact hw
  have ne_mo_q_tape : z_NE mo q_tape := (show mo ≠ q_tape from fun z => by have z2 := hmo; rw [z, n_q_tape] at z2; cases z2)
  have f1_mo : h1 mo = some ((20, 0), .inr (11, [.int 0, .null, .null, .int 0, .int 0, .null, .null, .null, .null, .int 0, .int 0, .int 0, .int 0, .null, .null, .null, .null, .null, .int 0, .int 0, .null, .null, .null, .null, .null, .null, .null, .null, .int 0, .int 0, .int 0])) := by rw [← hh1]; exact z_keepN n_q_tape hmo
  have f1_q_tape : h1 q_tape = some ((21, 0), .inl (g.2.1 1, 4000, .inl (fun _ => 0))) := by rw [← hh1]; exact z_put_eq
  have kk1 : z_K (fun y => 20 ≤ y ∧ y < 40) h h1 := kk0.tr (by rw [← hh1]; exact z_K.new n_q_tape)
  refine z_putF (ty := .array .int) hx hb hts (z_lay i_M) t_M t_M_ok n_M hown hK hw f1_mo rfl 1 (by decide) (z_in k_772 rfl) (fun _ h9 => h9) rfl hnm rfl (by decide +kernel) rfl rfl (Nat.le_of_ble_eq_true rfl) d_M_init_10 (fun H locs hw => ?_)
  obtain ⟨h2, hh2⟩ : ∃ x9, z_put h1 mo (20, 0) (.inr (11, [.int 0, .ref q_tape, .null, .int 0, .int 0, .null, .null, .null, .null, .int 0, .int 0, .int 0, .int 0, .null, .null, .null, .null, .null, .int 0, .int 0, .null, .null, .null, .null, .null, .null, .null, .null, .int 0, .int 0, .int 0])) = x9 := ⟨_, rfl⟩
  have hw : z_S g A s.heap h2 H locs := by rw [← hh2]; exact hw
  have f2_mo : h2 mo = some ((20, 0), .inr (11, [.int 0, .ref q_tape, .null, .int 0, .int 0, .null, .null, .null, .null, .int 0, .int 0, .int 0, .int 0, .null, .null, .null, .null, .null, .int 0, .int 0, .null, .null, .null, .null, .null, .null, .null, .null, .int 0, .int 0, .int 0])) := by rw [← hh2]; exact z_put_eq
  have f2_q_tape : h2 q_tape = some ((21, 0), .inl (g.2.1 1, 4000, .inl (fun _ => 0))) := by rw [← hh2]; exact (z_put_ne (Ne.symm ne_mo_q_tape)).trans f1_q_tape
  have kk2 : z_K (fun y => 20 ≤ y ∧ y < 40) h h2 := kk1.tr (by rw [← hh2]; exact z_K.put f1_mo (by first | decide | simp | omega))
  refine lv_aload_n hx hb d_M_init_13 rfl (lv_at hl 0 rfl) ?_
  refine lv_sipush (v := 4000) hx hb d_M_init_14 (by decide) ?_
  refine z_newa (atype := .int) (N' := 4000) (a0 := (4000, .inl (fun _ => 0))) hx hb hts (z_in k_82 rfl) hK hw hA 1 rfl rfl (fun C z => by cases z) (fun cA => rfl) (by decide) (by rfl) (by show _ ≤ _; simp [componentBytes]; try omega) (by first | exact Nat.le_of_ble_eq_true rfl | (dsimp only; omega) | omega) (by first | exact Nat.le_of_ble_eq_true rfl | (dsimp only; omega) | omega) d_M_init_17 (22, 0) (fun q_text H n_q_text hw => ?_)
  obtain ⟨h3, hh3⟩ : ∃ x9, z_put h2 q_text (22, 0) (.inl (g.2.1 1, 4000, .inl (fun _ => 0))) = x9 := ⟨_, rfl⟩
  have hw : z_S g A s.heap h3 H locs := by rw [← hh3]; exact hw
  have ne_mo_q_text : z_NE mo q_text := (show mo ≠ q_text from fun z => by have z2 := f2_mo; rw [z, n_q_text] at z2; cases z2)
  have ne_q_tape_q_text : z_NE q_tape q_text := (show q_tape ≠ q_text from fun z => by have z2 := f2_q_tape; rw [z, n_q_text] at z2; cases z2)
  have f3_mo : h3 mo = some ((20, 0), .inr (11, [.int 0, .ref q_tape, .null, .int 0, .int 0, .null, .null, .null, .null, .int 0, .int 0, .int 0, .int 0, .null, .null, .null, .null, .null, .int 0, .int 0, .null, .null, .null, .null, .null, .null, .null, .null, .int 0, .int 0, .int 0])) := by rw [← hh3]; exact z_keepN n_q_text f2_mo
  have f3_q_tape : h3 q_tape = some ((21, 0), .inl (g.2.1 1, 4000, .inl (fun _ => 0))) := by rw [← hh3]; exact z_keepN n_q_text f2_q_tape
  have f3_q_text : h3 q_text = some ((22, 0), .inl (g.2.1 1, 4000, .inl (fun _ => 0))) := by rw [← hh3]; exact z_put_eq
  have kk3 : z_K (fun y => 20 ≤ y ∧ y < 40) h h3 := kk2.tr (by rw [← hh3]; exact z_K.new n_q_text)
  refine z_putF (ty := .array .int) hx hb hts (z_lay i_M) t_M t_M_ok n_M hown hK hw f3_mo rfl 2 (by decide) (z_in k_773 rfl) (fun _ h9 => h9) rfl hnm rfl (by decide +kernel) rfl rfl (Nat.le_of_ble_eq_true rfl) d_M_init_19 (fun H locs hw => ?_)
  obtain ⟨h4, hh4⟩ : ∃ x9, z_put h3 mo (20, 0) (.inr (11, [.int 0, .ref q_tape, .ref q_text, .int 0, .int 0, .null, .null, .null, .null, .int 0, .int 0, .int 0, .int 0, .null, .null, .null, .null, .null, .int 0, .int 0, .null, .null, .null, .null, .null, .null, .null, .null, .int 0, .int 0, .int 0])) = x9 := ⟨_, rfl⟩
  have hw : z_S g A s.heap h4 H locs := by rw [← hh4]; exact hw
  have f4_mo : h4 mo = some ((20, 0), .inr (11, [.int 0, .ref q_tape, .ref q_text, .int 0, .int 0, .null, .null, .null, .null, .int 0, .int 0, .int 0, .int 0, .null, .null, .null, .null, .null, .int 0, .int 0, .null, .null, .null, .null, .null, .null, .null, .null, .int 0, .int 0, .int 0])) := by rw [← hh4]; exact z_put_eq
  have f4_q_tape : h4 q_tape = some ((21, 0), .inl (g.2.1 1, 4000, .inl (fun _ => 0))) := by rw [← hh4]; exact (z_put_ne (Ne.symm ne_mo_q_tape)).trans f3_q_tape
  have f4_q_text : h4 q_text = some ((22, 0), .inl (g.2.1 1, 4000, .inl (fun _ => 0))) := by rw [← hh4]; exact (z_put_ne (Ne.symm ne_mo_q_text)).trans f3_q_text
  have kk4 : z_K (fun y => 20 ≤ y ∧ y < 40) h h4 := kk3.tr (by rw [← hh4]; exact z_K.put f3_mo (by first | decide | simp | omega))
  refine lv_aload_n hx hb d_M_init_22 rfl (lv_at hl 0 rfl) ?_
  refine lv_bipush (v := 6) hx hb d_M_init_23 (by decide) ?_
  refine lv_sipush (v := 128) hx hb d_M_init_25 (by decide) ?_
  refine z_mnew hx hb hown hts (z_in k_768 rfl) hE hK hw hA (by first | exact Nat.le_of_ble_eq_true rfl | omega) (by first | exact Nat.le_of_ble_eq_true rfl | omega) d_M_init_28 23 (fun q_rows H locs n_q_rows hw => ?_)
  obtain ⟨h5, hh5⟩ : ∃ x9, mnP g h4 q_rows 23 = x9 := ⟨_, rfl⟩
  have hw : z_S g A s.heap h5 H locs := by rw [← hh5]; exact hw
  have k8 : z_K (fun y => y = 999) h4 h5 := by rw [← hh5]; exact mnP_K n_q_rows
  have kk5 : z_K (fun y => 20 ≤ y ∧ y < 40) h h5 := kk4.tr (by rw [← hh5]; exact mnP_K n_q_rows)
  have g5_mo : h5 mo = some ((20, 0), .inr (11, [.int 0, .ref q_tape, .ref q_text, .int 0, .int 0, .null, .null, .null, .null, .int 0, .int 0, .int 0, .int 0, .null, .null, .null, .null, .null, .int 0, .int 0, .null, .null, .null, .null, .null, .null, .null, .null, .int 0, .int 0, .int 0])) := k8 _ _ _ f4_mo (by simp; try omega)
  have g5_q_tape : h5 q_tape = some ((21, 0), .inl (g.2.1 1, 4000, .inl (fun _ => 0))) := k8 _ _ _ f4_q_tape (by simp; try omega)
  have g5_q_text : h5 q_text = some ((22, 0), .inl (g.2.1 1, 4000, .inl (fun _ => 0))) := k8 _ _ _ f4_q_text (by simp; try omega)
  have o_rows : h5 q_rows = some ((23, 0), .inl (g.2.1 5, 6, .inr (.inr (.inr (.inr (fun k => some (q_rows + 1 + k))))))) := by rw [← hh5]; exact mnP_o
  have r_rows : ∀ k, k < 6 → h5 (q_rows + 1 + k) = some ((24, k), .inl (g.2.1 1, 128, .inl (fun _ => 0))) := by rw [← hh5]; exact fun k hk => mnP_r hk
  have sg_rowsh5 : z_K (fun y => y = 20 ∨ y = 29) h5 h5 := z_K.rf
  refine z_putF (ty := .array (.array .int)) hx hb hts (z_lay i_M) t_M t_M_ok n_M hown hK hw g5_mo rfl 5 (by decide) (z_in k_776 rfl) (fun _ h9 => h9) rfl hnm rfl (by decide +kernel) rfl rfl (Nat.le_of_ble_eq_true rfl) d_M_init_32 (fun H locs hw => ?_)
  obtain ⟨h6, hh6⟩ : ∃ x9, z_put h5 mo (20, 0) (.inr (11, [.int 0, .ref q_tape, .ref q_text, .int 0, .int 0, .ref q_rows, .null, .null, .null, .int 0, .int 0, .int 0, .int 0, .null, .null, .null, .null, .null, .int 0, .int 0, .null, .null, .null, .null, .null, .null, .null, .null, .int 0, .int 0, .int 0])) = x9 := ⟨_, rfl⟩
  have hw : z_S g A s.heap h6 H locs := by rw [← hh6]; exact hw
  have f6_mo : h6 mo = some ((20, 0), .inr (11, [.int 0, .ref q_tape, .ref q_text, .int 0, .int 0, .ref q_rows, .null, .null, .null, .int 0, .int 0, .int 0, .int 0, .null, .null, .null, .null, .null, .int 0, .int 0, .null, .null, .null, .null, .null, .null, .null, .null, .int 0, .int 0, .int 0])) := by rw [← hh6]; exact z_put_eq
  have f6_q_tape : h6 q_tape = some ((21, 0), .inl (g.2.1 1, 4000, .inl (fun _ => 0))) := by rw [← hh6]; exact (z_put_ne (Ne.symm ne_mo_q_tape)).trans g5_q_tape
  have f6_q_text : h6 q_text = some ((22, 0), .inl (g.2.1 1, 4000, .inl (fun _ => 0))) := by rw [← hh6]; exact (z_put_ne (Ne.symm ne_mo_q_text)).trans g5_q_text
  have kk6 : z_K (fun y => 20 ≤ y ∧ y < 40) h h6 := kk5.tr (by rw [← hh6]; exact z_K.put g5_mo (by first | decide | simp | omega))
  have sg_rowsh6 : z_K (fun y => y = 20 ∨ y = 29) h5 h6 := sg_rowsh5.tr (by rw [← hh6]; exact z_K.put g5_mo (by simp))
  refine lv_aload_n hx hb d_M_init_35 rfl (lv_at hl 0 rfl) ?_
  refine lv_bipush (v := 6) hx hb d_M_init_36 (by decide) ?_
  refine lv_sipush (v := 128) hx hb d_M_init_38 (by decide) ?_
  refine z_mnew hx hb hown hts (z_in k_768 rfl) hE hK hw hA (by first | exact Nat.le_of_ble_eq_true rfl | omega) (by first | exact Nat.le_of_ble_eq_true rfl | omega) d_M_init_41 25 (fun q_fresh H locs n_q_fresh hw => ?_)
  obtain ⟨h7, hh7⟩ : ∃ x9, mnP g h6 q_fresh 25 = x9 := ⟨_, rfl⟩
  have hw : z_S g A s.heap h7 H locs := by rw [← hh7]; exact hw
  have k8 : z_K (fun y => y = 999) h6 h7 := by rw [← hh7]; exact mnP_K n_q_fresh
  have sg_rowsh7 : z_K (fun y => y = 20 ∨ y = 29) h5 h7 := sg_rowsh6.tr (by rw [← hh7]; exact mnP_K n_q_fresh)
  have kk7 : z_K (fun y => 20 ≤ y ∧ y < 40) h h7 := kk6.tr (by rw [← hh7]; exact mnP_K n_q_fresh)
  have g7_mo : h7 mo = some ((20, 0), .inr (11, [.int 0, .ref q_tape, .ref q_text, .int 0, .int 0, .ref q_rows, .null, .null, .null, .int 0, .int 0, .int 0, .int 0, .null, .null, .null, .null, .null, .int 0, .int 0, .null, .null, .null, .null, .null, .null, .null, .null, .int 0, .int 0, .int 0])) := k8 _ _ _ f6_mo (by simp; try omega)
  have g7_q_tape : h7 q_tape = some ((21, 0), .inl (g.2.1 1, 4000, .inl (fun _ => 0))) := k8 _ _ _ f6_q_tape (by simp; try omega)
  have g7_q_text : h7 q_text = some ((22, 0), .inl (g.2.1 1, 4000, .inl (fun _ => 0))) := k8 _ _ _ f6_q_text (by simp; try omega)
  have o_fresh : h7 q_fresh = some ((25, 0), .inl (g.2.1 5, 6, .inr (.inr (.inr (.inr (fun k => some (q_fresh + 1 + k))))))) := by rw [← hh7]; exact mnP_o
  have r_fresh : ∀ k, k < 6 → h7 (q_fresh + 1 + k) = some ((26, k), .inl (g.2.1 1, 128, .inl (fun _ => 0))) := by rw [← hh7]; exact fun k hk => mnP_r hk
  have sg_freshh7 : z_K (fun y => y = 20 ∨ y = 29) h7 h7 := z_K.rf
  refine z_putF (ty := .array (.array .int)) hx hb hts (z_lay i_M) t_M t_M_ok n_M hown hK hw g7_mo rfl 6 (by decide) (z_in k_777 rfl) (fun _ h9 => h9) rfl hnm rfl (by decide +kernel) rfl rfl (Nat.le_of_ble_eq_true rfl) d_M_init_45 (fun H locs hw => ?_)
  obtain ⟨h8, hh8⟩ : ∃ x9, z_put h7 mo (20, 0) (.inr (11, [.int 0, .ref q_tape, .ref q_text, .int 0, .int 0, .ref q_rows, .ref q_fresh, .null, .null, .int 0, .int 0, .int 0, .int 0, .null, .null, .null, .null, .null, .int 0, .int 0, .null, .null, .null, .null, .null, .null, .null, .null, .int 0, .int 0, .int 0])) = x9 := ⟨_, rfl⟩
  have hw : z_S g A s.heap h8 H locs := by rw [← hh8]; exact hw
  have f8_mo : h8 mo = some ((20, 0), .inr (11, [.int 0, .ref q_tape, .ref q_text, .int 0, .int 0, .ref q_rows, .ref q_fresh, .null, .null, .int 0, .int 0, .int 0, .int 0, .null, .null, .null, .null, .null, .int 0, .int 0, .null, .null, .null, .null, .null, .null, .null, .null, .int 0, .int 0, .int 0])) := by rw [← hh8]; exact z_put_eq
  have f8_q_tape : h8 q_tape = some ((21, 0), .inl (g.2.1 1, 4000, .inl (fun _ => 0))) := by rw [← hh8]; exact (z_put_ne (Ne.symm ne_mo_q_tape)).trans g7_q_tape
  have f8_q_text : h8 q_text = some ((22, 0), .inl (g.2.1 1, 4000, .inl (fun _ => 0))) := by rw [← hh8]; exact (z_put_ne (Ne.symm ne_mo_q_text)).trans g7_q_text
  have kk8 : z_K (fun y => 20 ≤ y ∧ y < 40) h h8 := kk7.tr (by rw [← hh8]; exact z_K.put g7_mo (by first | decide | simp | omega))
  have sg_rowsh8 : z_K (fun y => y = 20 ∨ y = 29) h5 h8 := sg_rowsh7.tr (by rw [← hh8]; exact z_K.put g7_mo (by simp))
  have sg_freshh8 : z_K (fun y => y = 20 ∨ y = 29) h7 h8 := sg_freshh7.tr (by rw [← hh8]; exact z_K.put g7_mo (by simp))
  refine lv_aload_n hx hb d_M_init_48 rfl (lv_at hl 0 rfl) ?_
  refine lv_sipush (v := 2048) hx hb d_M_init_49 (by decide) ?_
  refine z_newa (atype := .int) (N' := 2048) (a0 := (2048, .inl (fun _ => 0))) hx hb hts (z_in k_82 rfl) hK hw hA 1 rfl rfl (fun C z => by cases z) (fun cA => rfl) (by decide) (by rfl) (by show _ ≤ _; simp [componentBytes]; try omega) (by first | exact Nat.le_of_ble_eq_true rfl | (dsimp only; omega) | omega) (by first | exact Nat.le_of_ble_eq_true rfl | (dsimp only; omega) | omega) d_M_init_52 (27, 0) (fun q_letters H n_q_letters hw => ?_)
  obtain ⟨h9, hh9⟩ : ∃ x9, z_put h8 q_letters (27, 0) (.inl (g.2.1 1, 2048, .inl (fun _ => 0))) = x9 := ⟨_, rfl⟩
  have hw : z_S g A s.heap h9 H locs := by rw [← hh9]; exact hw
  have ne_mo_q_letters : z_NE mo q_letters := (show mo ≠ q_letters from fun z => by have z2 := f8_mo; rw [z, n_q_letters] at z2; cases z2)
  have ne_q_tape_q_letters : z_NE q_tape q_letters := (show q_tape ≠ q_letters from fun z => by have z2 := f8_q_tape; rw [z, n_q_letters] at z2; cases z2)
  have ne_q_text_q_letters : z_NE q_text q_letters := (show q_text ≠ q_letters from fun z => by have z2 := f8_q_text; rw [z, n_q_letters] at z2; cases z2)
  have f9_mo : h9 mo = some ((20, 0), .inr (11, [.int 0, .ref q_tape, .ref q_text, .int 0, .int 0, .ref q_rows, .ref q_fresh, .null, .null, .int 0, .int 0, .int 0, .int 0, .null, .null, .null, .null, .null, .int 0, .int 0, .null, .null, .null, .null, .null, .null, .null, .null, .int 0, .int 0, .int 0])) := by rw [← hh9]; exact z_keepN n_q_letters f8_mo
  have f9_q_tape : h9 q_tape = some ((21, 0), .inl (g.2.1 1, 4000, .inl (fun _ => 0))) := by rw [← hh9]; exact z_keepN n_q_letters f8_q_tape
  have f9_q_text : h9 q_text = some ((22, 0), .inl (g.2.1 1, 4000, .inl (fun _ => 0))) := by rw [← hh9]; exact z_keepN n_q_letters f8_q_text
  have f9_q_letters : h9 q_letters = some ((27, 0), .inl (g.2.1 1, 2048, .inl (fun _ => 0))) := by rw [← hh9]; exact z_put_eq
  have kk9 : z_K (fun y => 20 ≤ y ∧ y < 40) h h9 := kk8.tr (by rw [← hh9]; exact z_K.new n_q_letters)
  have sg_rowsh9 : z_K (fun y => y = 20 ∨ y = 29) h5 h9 := sg_rowsh8.tr (by rw [← hh9]; exact z_K.new n_q_letters)
  have sg_freshh9 : z_K (fun y => y = 20 ∨ y = 29) h7 h9 := sg_freshh8.tr (by rw [← hh9]; exact z_K.new n_q_letters)
  refine z_putF (ty := .array .int) hx hb hts (z_lay i_M) t_M t_M_ok n_M hown hK hw f9_mo rfl 7 (by decide) (z_in k_778 rfl) (fun _ h9 => h9) rfl hnm rfl (by decide +kernel) rfl rfl (Nat.le_of_ble_eq_true rfl) d_M_init_54 (fun H locs hw => ?_)
  obtain ⟨h10, hh10⟩ : ∃ x9, z_put h9 mo (20, 0) (.inr (11, [.int 0, .ref q_tape, .ref q_text, .int 0, .int 0, .ref q_rows, .ref q_fresh, .ref q_letters, .null, .int 0, .int 0, .int 0, .int 0, .null, .null, .null, .null, .null, .int 0, .int 0, .null, .null, .null, .null, .null, .null, .null, .null, .int 0, .int 0, .int 0])) = x9 := ⟨_, rfl⟩
  have hw : z_S g A s.heap h10 H locs := by rw [← hh10]; exact hw
  have f10_mo : h10 mo = some ((20, 0), .inr (11, [.int 0, .ref q_tape, .ref q_text, .int 0, .int 0, .ref q_rows, .ref q_fresh, .ref q_letters, .null, .int 0, .int 0, .int 0, .int 0, .null, .null, .null, .null, .null, .int 0, .int 0, .null, .null, .null, .null, .null, .null, .null, .null, .int 0, .int 0, .int 0])) := by rw [← hh10]; exact z_put_eq
  have f10_q_tape : h10 q_tape = some ((21, 0), .inl (g.2.1 1, 4000, .inl (fun _ => 0))) := by rw [← hh10]; exact (z_put_ne (Ne.symm ne_mo_q_tape)).trans f9_q_tape
  have f10_q_text : h10 q_text = some ((22, 0), .inl (g.2.1 1, 4000, .inl (fun _ => 0))) := by rw [← hh10]; exact (z_put_ne (Ne.symm ne_mo_q_text)).trans f9_q_text
  have f10_q_letters : h10 q_letters = some ((27, 0), .inl (g.2.1 1, 2048, .inl (fun _ => 0))) := by rw [← hh10]; exact (z_put_ne (Ne.symm ne_mo_q_letters)).trans f9_q_letters
  have kk10 : z_K (fun y => 20 ≤ y ∧ y < 40) h h10 := kk9.tr (by rw [← hh10]; exact z_K.put f9_mo (by first | decide | simp | omega))
  have sg_rowsh10 : z_K (fun y => y = 20 ∨ y = 29) h5 h10 := sg_rowsh9.tr (by rw [← hh10]; exact z_K.put f9_mo (by simp))
  have sg_freshh10 : z_K (fun y => y = 20 ∨ y = 29) h7 h10 := sg_freshh9.tr (by rw [← hh10]; exact z_K.put f9_mo (by simp))
  refine lv_aload_n hx hb d_M_init_57 rfl (lv_at hl 0 rfl) ?_
  refine lv_sipush (v := 2048) hx hb d_M_init_58 (by decide) ?_
  refine z_newa (atype := .int) (N' := 2048) (a0 := (2048, .inl (fun _ => 0))) hx hb hts (z_in k_82 rfl) hK hw hA 1 rfl rfl (fun C z => by cases z) (fun cA => rfl) (by decide) (by rfl) (by show _ ≤ _; simp [componentBytes]; try omega) (by first | exact Nat.le_of_ble_eq_true rfl | (dsimp only; omega) | omega) (by first | exact Nat.le_of_ble_eq_true rfl | (dsimp only; omega) | omega) d_M_init_61 (28, 0) (fun q_freshLetters H n_q_freshLetters hw => ?_)
  obtain ⟨h11, hh11⟩ : ∃ x9, z_put h10 q_freshLetters (28, 0) (.inl (g.2.1 1, 2048, .inl (fun _ => 0))) = x9 := ⟨_, rfl⟩
  have hw : z_S g A s.heap h11 H locs := by rw [← hh11]; exact hw
  have ne_mo_q_freshLetters : z_NE mo q_freshLetters := (show mo ≠ q_freshLetters from fun z => by have z2 := f10_mo; rw [z, n_q_freshLetters] at z2; cases z2)
  have ne_q_tape_q_freshLetters : z_NE q_tape q_freshLetters := (show q_tape ≠ q_freshLetters from fun z => by have z2 := f10_q_tape; rw [z, n_q_freshLetters] at z2; cases z2)
  have ne_q_text_q_freshLetters : z_NE q_text q_freshLetters := (show q_text ≠ q_freshLetters from fun z => by have z2 := f10_q_text; rw [z, n_q_freshLetters] at z2; cases z2)
  have ne_q_letters_q_freshLetters : z_NE q_letters q_freshLetters := (show q_letters ≠ q_freshLetters from fun z => by have z2 := f10_q_letters; rw [z, n_q_freshLetters] at z2; cases z2)
  have f11_mo : h11 mo = some ((20, 0), .inr (11, [.int 0, .ref q_tape, .ref q_text, .int 0, .int 0, .ref q_rows, .ref q_fresh, .ref q_letters, .null, .int 0, .int 0, .int 0, .int 0, .null, .null, .null, .null, .null, .int 0, .int 0, .null, .null, .null, .null, .null, .null, .null, .null, .int 0, .int 0, .int 0])) := by rw [← hh11]; exact z_keepN n_q_freshLetters f10_mo
  have f11_q_tape : h11 q_tape = some ((21, 0), .inl (g.2.1 1, 4000, .inl (fun _ => 0))) := by rw [← hh11]; exact z_keepN n_q_freshLetters f10_q_tape
  have f11_q_text : h11 q_text = some ((22, 0), .inl (g.2.1 1, 4000, .inl (fun _ => 0))) := by rw [← hh11]; exact z_keepN n_q_freshLetters f10_q_text
  have f11_q_letters : h11 q_letters = some ((27, 0), .inl (g.2.1 1, 2048, .inl (fun _ => 0))) := by rw [← hh11]; exact z_keepN n_q_freshLetters f10_q_letters
  have f11_q_freshLetters : h11 q_freshLetters = some ((28, 0), .inl (g.2.1 1, 2048, .inl (fun _ => 0))) := by rw [← hh11]; exact z_put_eq
  have kk11 : z_K (fun y => 20 ≤ y ∧ y < 40) h h11 := kk10.tr (by rw [← hh11]; exact z_K.new n_q_freshLetters)
  have sg_rowsh11 : z_K (fun y => y = 20 ∨ y = 29) h5 h11 := sg_rowsh10.tr (by rw [← hh11]; exact z_K.new n_q_freshLetters)
  have sg_freshh11 : z_K (fun y => y = 20 ∨ y = 29) h7 h11 := sg_freshh10.tr (by rw [← hh11]; exact z_K.new n_q_freshLetters)
  refine z_putF (ty := .array .int) hx hb hts (z_lay i_M) t_M t_M_ok n_M hown hK hw f11_mo rfl 8 (by decide) (z_in k_779 rfl) (fun _ h9 => h9) rfl hnm rfl (by decide +kernel) rfl rfl (Nat.le_of_ble_eq_true rfl) d_M_init_63 (fun H locs hw => ?_)
  obtain ⟨h12, hh12⟩ : ∃ x9, z_put h11 mo (20, 0) (.inr (11, [.int 0, .ref q_tape, .ref q_text, .int 0, .int 0, .ref q_rows, .ref q_fresh, .ref q_letters, .ref q_freshLetters, .int 0, .int 0, .int 0, .int 0, .null, .null, .null, .null, .null, .int 0, .int 0, .null, .null, .null, .null, .null, .null, .null, .null, .int 0, .int 0, .int 0])) = x9 := ⟨_, rfl⟩
  have hw : z_S g A s.heap h12 H locs := by rw [← hh12]; exact hw
  have f12_mo : h12 mo = some ((20, 0), .inr (11, [.int 0, .ref q_tape, .ref q_text, .int 0, .int 0, .ref q_rows, .ref q_fresh, .ref q_letters, .ref q_freshLetters, .int 0, .int 0, .int 0, .int 0, .null, .null, .null, .null, .null, .int 0, .int 0, .null, .null, .null, .null, .null, .null, .null, .null, .int 0, .int 0, .int 0])) := by rw [← hh12]; exact z_put_eq
  have f12_q_tape : h12 q_tape = some ((21, 0), .inl (g.2.1 1, 4000, .inl (fun _ => 0))) := by rw [← hh12]; exact (z_put_ne (Ne.symm ne_mo_q_tape)).trans f11_q_tape
  have f12_q_text : h12 q_text = some ((22, 0), .inl (g.2.1 1, 4000, .inl (fun _ => 0))) := by rw [← hh12]; exact (z_put_ne (Ne.symm ne_mo_q_text)).trans f11_q_text
  have f12_q_letters : h12 q_letters = some ((27, 0), .inl (g.2.1 1, 2048, .inl (fun _ => 0))) := by rw [← hh12]; exact (z_put_ne (Ne.symm ne_mo_q_letters)).trans f11_q_letters
  have f12_q_freshLetters : h12 q_freshLetters = some ((28, 0), .inl (g.2.1 1, 2048, .inl (fun _ => 0))) := by rw [← hh12]; exact (z_put_ne (Ne.symm ne_mo_q_freshLetters)).trans f11_q_freshLetters
  have kk12 : z_K (fun y => 20 ≤ y ∧ y < 40) h h12 := kk11.tr (by rw [← hh12]; exact z_K.put f11_mo (by first | decide | simp | omega))
  have sg_rowsh12 : z_K (fun y => y = 20 ∨ y = 29) h5 h12 := sg_rowsh11.tr (by rw [← hh12]; exact z_K.put f11_mo (by simp))
  have sg_freshh12 : z_K (fun y => y = 20 ∨ y = 29) h7 h12 := sg_freshh11.tr (by rw [← hh12]; exact z_K.put f11_mo (by simp))
  refine lv_aload_n hx hb d_M_init_66 rfl (lv_at hl 0 rfl) ?_
  refine lv_sipush (v := 2000) hx hb d_M_init_67 (by decide) ?_
  refine z_newa (atype := .int) (N' := 2000) (a0 := (2000, .inl (fun _ => 0))) hx hb hts (z_in k_82 rfl) hK hw hA 1 rfl rfl (fun C z => by cases z) (fun cA => rfl) (by decide) (by rfl) (by show _ ≤ _; simp [componentBytes]; try omega) (by first | exact Nat.le_of_ble_eq_true rfl | (dsimp only; omega) | omega) (by first | exact Nat.le_of_ble_eq_true rfl | (dsimp only; omega) | omega) d_M_init_70 (29, 0) (fun q_nodeField H n_q_nodeField hw => ?_)
  obtain ⟨h13, hh13⟩ : ∃ x9, z_put h12 q_nodeField (29, 0) (.inl (g.2.1 1, 2000, .inl (fun _ => 0))) = x9 := ⟨_, rfl⟩
  have hw : z_S g A s.heap h13 H locs := by rw [← hh13]; exact hw
  have ne_mo_q_nodeField : z_NE mo q_nodeField := (show mo ≠ q_nodeField from fun z => by have z2 := f12_mo; rw [z, n_q_nodeField] at z2; cases z2)
  have ne_q_tape_q_nodeField : z_NE q_tape q_nodeField := (show q_tape ≠ q_nodeField from fun z => by have z2 := f12_q_tape; rw [z, n_q_nodeField] at z2; cases z2)
  have ne_q_text_q_nodeField : z_NE q_text q_nodeField := (show q_text ≠ q_nodeField from fun z => by have z2 := f12_q_text; rw [z, n_q_nodeField] at z2; cases z2)
  have ne_q_letters_q_nodeField : z_NE q_letters q_nodeField := (show q_letters ≠ q_nodeField from fun z => by have z2 := f12_q_letters; rw [z, n_q_nodeField] at z2; cases z2)
  have ne_q_freshLetters_q_nodeField : z_NE q_freshLetters q_nodeField := (show q_freshLetters ≠ q_nodeField from fun z => by have z2 := f12_q_freshLetters; rw [z, n_q_nodeField] at z2; cases z2)
  have f13_mo : h13 mo = some ((20, 0), .inr (11, [.int 0, .ref q_tape, .ref q_text, .int 0, .int 0, .ref q_rows, .ref q_fresh, .ref q_letters, .ref q_freshLetters, .int 0, .int 0, .int 0, .int 0, .null, .null, .null, .null, .null, .int 0, .int 0, .null, .null, .null, .null, .null, .null, .null, .null, .int 0, .int 0, .int 0])) := by rw [← hh13]; exact z_keepN n_q_nodeField f12_mo
  have f13_q_tape : h13 q_tape = some ((21, 0), .inl (g.2.1 1, 4000, .inl (fun _ => 0))) := by rw [← hh13]; exact z_keepN n_q_nodeField f12_q_tape
  have f13_q_text : h13 q_text = some ((22, 0), .inl (g.2.1 1, 4000, .inl (fun _ => 0))) := by rw [← hh13]; exact z_keepN n_q_nodeField f12_q_text
  have f13_q_letters : h13 q_letters = some ((27, 0), .inl (g.2.1 1, 2048, .inl (fun _ => 0))) := by rw [← hh13]; exact z_keepN n_q_nodeField f12_q_letters
  have f13_q_freshLetters : h13 q_freshLetters = some ((28, 0), .inl (g.2.1 1, 2048, .inl (fun _ => 0))) := by rw [← hh13]; exact z_keepN n_q_nodeField f12_q_freshLetters
  have f13_q_nodeField : h13 q_nodeField = some ((29, 0), .inl (g.2.1 1, 2000, .inl (fun _ => 0))) := by rw [← hh13]; exact z_put_eq
  have kk13 : z_K (fun y => 20 ≤ y ∧ y < 40) h h13 := kk12.tr (by rw [← hh13]; exact z_K.new n_q_nodeField)
  have sg_rowsh13 : z_K (fun y => y = 20 ∨ y = 29) h5 h13 := sg_rowsh12.tr (by rw [← hh13]; exact z_K.new n_q_nodeField)
  have sg_freshh13 : z_K (fun y => y = 20 ∨ y = 29) h7 h13 := sg_freshh12.tr (by rw [← hh13]; exact z_K.new n_q_nodeField)
  refine z_putF (ty := .array .int) hx hb hts (z_lay i_M) t_M t_M_ok n_M hown hK hw f13_mo rfl 13 (by decide) (z_in k_784 rfl) (fun _ h9 => h9) rfl hnm rfl (by decide +kernel) rfl rfl (Nat.le_of_ble_eq_true rfl) d_M_init_72 (fun H locs hw => ?_)
  obtain ⟨h14, hh14⟩ : ∃ x9, z_put h13 mo (20, 0) (.inr (11, [.int 0, .ref q_tape, .ref q_text, .int 0, .int 0, .ref q_rows, .ref q_fresh, .ref q_letters, .ref q_freshLetters, .int 0, .int 0, .int 0, .int 0, .ref q_nodeField, .null, .null, .null, .null, .int 0, .int 0, .null, .null, .null, .null, .null, .null, .null, .null, .int 0, .int 0, .int 0])) = x9 := ⟨_, rfl⟩
  have hw : z_S g A s.heap h14 H locs := by rw [← hh14]; exact hw
  have f14_mo : h14 mo = some ((20, 0), .inr (11, [.int 0, .ref q_tape, .ref q_text, .int 0, .int 0, .ref q_rows, .ref q_fresh, .ref q_letters, .ref q_freshLetters, .int 0, .int 0, .int 0, .int 0, .ref q_nodeField, .null, .null, .null, .null, .int 0, .int 0, .null, .null, .null, .null, .null, .null, .null, .null, .int 0, .int 0, .int 0])) := by rw [← hh14]; exact z_put_eq
  have f14_q_tape : h14 q_tape = some ((21, 0), .inl (g.2.1 1, 4000, .inl (fun _ => 0))) := by rw [← hh14]; exact (z_put_ne (Ne.symm ne_mo_q_tape)).trans f13_q_tape
  have f14_q_text : h14 q_text = some ((22, 0), .inl (g.2.1 1, 4000, .inl (fun _ => 0))) := by rw [← hh14]; exact (z_put_ne (Ne.symm ne_mo_q_text)).trans f13_q_text
  have f14_q_letters : h14 q_letters = some ((27, 0), .inl (g.2.1 1, 2048, .inl (fun _ => 0))) := by rw [← hh14]; exact (z_put_ne (Ne.symm ne_mo_q_letters)).trans f13_q_letters
  have f14_q_freshLetters : h14 q_freshLetters = some ((28, 0), .inl (g.2.1 1, 2048, .inl (fun _ => 0))) := by rw [← hh14]; exact (z_put_ne (Ne.symm ne_mo_q_freshLetters)).trans f13_q_freshLetters
  have f14_q_nodeField : h14 q_nodeField = some ((29, 0), .inl (g.2.1 1, 2000, .inl (fun _ => 0))) := by rw [← hh14]; exact (z_put_ne (Ne.symm ne_mo_q_nodeField)).trans f13_q_nodeField
  have kk14 : z_K (fun y => 20 ≤ y ∧ y < 40) h h14 := kk13.tr (by rw [← hh14]; exact z_K.put f13_mo (by first | decide | simp | omega))
  have sg_rowsh14 : z_K (fun y => y = 20 ∨ y = 29) h5 h14 := sg_rowsh13.tr (by rw [← hh14]; exact z_K.put f13_mo (by simp))
  have sg_freshh14 : z_K (fun y => y = 20 ∨ y = 29) h7 h14 := sg_freshh13.tr (by rw [← hh14]; exact z_K.put f13_mo (by simp))
  refine lv_aload_n hx hb d_M_init_75 rfl (lv_at hl 0 rfl) ?_
  refine lv_sipush (v := 2000) hx hb d_M_init_76 (by decide) ?_
  refine z_newa (atype := .int) (N' := 2000) (a0 := (2000, .inl (fun _ => 0))) hx hb hts (z_in k_82 rfl) hK hw hA 1 rfl rfl (fun C z => by cases z) (fun cA => rfl) (by decide) (by rfl) (by show _ ≤ _; simp [componentBytes]; try omega) (by first | exact Nat.le_of_ble_eq_true rfl | (dsimp only; omega) | omega) (by first | exact Nat.le_of_ble_eq_true rfl | (dsimp only; omega) | omega) d_M_init_79 (29, 1) (fun q_nodeParent H n_q_nodeParent hw => ?_)
  obtain ⟨h15, hh15⟩ : ∃ x9, z_put h14 q_nodeParent (29, 1) (.inl (g.2.1 1, 2000, .inl (fun _ => 0))) = x9 := ⟨_, rfl⟩
  have hw : z_S g A s.heap h15 H locs := by rw [← hh15]; exact hw
  have ne_mo_q_nodeParent : z_NE mo q_nodeParent := (show mo ≠ q_nodeParent from fun z => by have z2 := f14_mo; rw [z, n_q_nodeParent] at z2; cases z2)
  have ne_q_tape_q_nodeParent : z_NE q_tape q_nodeParent := (show q_tape ≠ q_nodeParent from fun z => by have z2 := f14_q_tape; rw [z, n_q_nodeParent] at z2; cases z2)
  have ne_q_text_q_nodeParent : z_NE q_text q_nodeParent := (show q_text ≠ q_nodeParent from fun z => by have z2 := f14_q_text; rw [z, n_q_nodeParent] at z2; cases z2)
  have ne_q_letters_q_nodeParent : z_NE q_letters q_nodeParent := (show q_letters ≠ q_nodeParent from fun z => by have z2 := f14_q_letters; rw [z, n_q_nodeParent] at z2; cases z2)
  have ne_q_freshLetters_q_nodeParent : z_NE q_freshLetters q_nodeParent := (show q_freshLetters ≠ q_nodeParent from fun z => by have z2 := f14_q_freshLetters; rw [z, n_q_nodeParent] at z2; cases z2)
  have ne_q_nodeField_q_nodeParent : z_NE q_nodeField q_nodeParent := (show q_nodeField ≠ q_nodeParent from fun z => by have z2 := f14_q_nodeField; rw [z, n_q_nodeParent] at z2; cases z2)
  have f15_mo : h15 mo = some ((20, 0), .inr (11, [.int 0, .ref q_tape, .ref q_text, .int 0, .int 0, .ref q_rows, .ref q_fresh, .ref q_letters, .ref q_freshLetters, .int 0, .int 0, .int 0, .int 0, .ref q_nodeField, .null, .null, .null, .null, .int 0, .int 0, .null, .null, .null, .null, .null, .null, .null, .null, .int 0, .int 0, .int 0])) := by rw [← hh15]; exact z_keepN n_q_nodeParent f14_mo
  have f15_q_tape : h15 q_tape = some ((21, 0), .inl (g.2.1 1, 4000, .inl (fun _ => 0))) := by rw [← hh15]; exact z_keepN n_q_nodeParent f14_q_tape
  have f15_q_text : h15 q_text = some ((22, 0), .inl (g.2.1 1, 4000, .inl (fun _ => 0))) := by rw [← hh15]; exact z_keepN n_q_nodeParent f14_q_text
  have f15_q_letters : h15 q_letters = some ((27, 0), .inl (g.2.1 1, 2048, .inl (fun _ => 0))) := by rw [← hh15]; exact z_keepN n_q_nodeParent f14_q_letters
  have f15_q_freshLetters : h15 q_freshLetters = some ((28, 0), .inl (g.2.1 1, 2048, .inl (fun _ => 0))) := by rw [← hh15]; exact z_keepN n_q_nodeParent f14_q_freshLetters
  have f15_q_nodeField : h15 q_nodeField = some ((29, 0), .inl (g.2.1 1, 2000, .inl (fun _ => 0))) := by rw [← hh15]; exact z_keepN n_q_nodeParent f14_q_nodeField
  have f15_q_nodeParent : h15 q_nodeParent = some ((29, 1), .inl (g.2.1 1, 2000, .inl (fun _ => 0))) := by rw [← hh15]; exact z_put_eq
  have kk15 : z_K (fun y => 20 ≤ y ∧ y < 40) h h15 := kk14.tr (by rw [← hh15]; exact z_K.new n_q_nodeParent)
  have sg_rowsh15 : z_K (fun y => y = 20 ∨ y = 29) h5 h15 := sg_rowsh14.tr (by rw [← hh15]; exact z_K.new n_q_nodeParent)
  have sg_freshh15 : z_K (fun y => y = 20 ∨ y = 29) h7 h15 := sg_freshh14.tr (by rw [← hh15]; exact z_K.new n_q_nodeParent)
  refine z_putF (ty := .array .int) hx hb hts (z_lay i_M) t_M t_M_ok n_M hown hK hw f15_mo rfl 14 (by decide) (z_in k_785 rfl) (fun _ h9 => h9) rfl hnm rfl (by decide +kernel) rfl rfl (Nat.le_of_ble_eq_true rfl) d_M_init_81 (fun H locs hw => ?_)
  obtain ⟨h16, hh16⟩ : ∃ x9, z_put h15 mo (20, 0) (.inr (11, [.int 0, .ref q_tape, .ref q_text, .int 0, .int 0, .ref q_rows, .ref q_fresh, .ref q_letters, .ref q_freshLetters, .int 0, .int 0, .int 0, .int 0, .ref q_nodeField, .ref q_nodeParent, .null, .null, .null, .int 0, .int 0, .null, .null, .null, .null, .null, .null, .null, .null, .int 0, .int 0, .int 0])) = x9 := ⟨_, rfl⟩
  have hw : z_S g A s.heap h16 H locs := by rw [← hh16]; exact hw
  have f16_mo : h16 mo = some ((20, 0), .inr (11, [.int 0, .ref q_tape, .ref q_text, .int 0, .int 0, .ref q_rows, .ref q_fresh, .ref q_letters, .ref q_freshLetters, .int 0, .int 0, .int 0, .int 0, .ref q_nodeField, .ref q_nodeParent, .null, .null, .null, .int 0, .int 0, .null, .null, .null, .null, .null, .null, .null, .null, .int 0, .int 0, .int 0])) := by rw [← hh16]; exact z_put_eq
  have f16_q_tape : h16 q_tape = some ((21, 0), .inl (g.2.1 1, 4000, .inl (fun _ => 0))) := by rw [← hh16]; exact (z_put_ne (Ne.symm ne_mo_q_tape)).trans f15_q_tape
  have f16_q_text : h16 q_text = some ((22, 0), .inl (g.2.1 1, 4000, .inl (fun _ => 0))) := by rw [← hh16]; exact (z_put_ne (Ne.symm ne_mo_q_text)).trans f15_q_text
  have f16_q_letters : h16 q_letters = some ((27, 0), .inl (g.2.1 1, 2048, .inl (fun _ => 0))) := by rw [← hh16]; exact (z_put_ne (Ne.symm ne_mo_q_letters)).trans f15_q_letters
  have f16_q_freshLetters : h16 q_freshLetters = some ((28, 0), .inl (g.2.1 1, 2048, .inl (fun _ => 0))) := by rw [← hh16]; exact (z_put_ne (Ne.symm ne_mo_q_freshLetters)).trans f15_q_freshLetters
  have f16_q_nodeField : h16 q_nodeField = some ((29, 0), .inl (g.2.1 1, 2000, .inl (fun _ => 0))) := by rw [← hh16]; exact (z_put_ne (Ne.symm ne_mo_q_nodeField)).trans f15_q_nodeField
  have f16_q_nodeParent : h16 q_nodeParent = some ((29, 1), .inl (g.2.1 1, 2000, .inl (fun _ => 0))) := by rw [← hh16]; exact (z_put_ne (Ne.symm ne_mo_q_nodeParent)).trans f15_q_nodeParent
  have kk16 : z_K (fun y => 20 ≤ y ∧ y < 40) h h16 := kk15.tr (by rw [← hh16]; exact z_K.put f15_mo (by first | decide | simp | omega))
  have sg_rowsh16 : z_K (fun y => y = 20 ∨ y = 29) h5 h16 := sg_rowsh15.tr (by rw [← hh16]; exact z_K.put f15_mo (by simp))
  have sg_freshh16 : z_K (fun y => y = 20 ∨ y = 29) h7 h16 := sg_freshh15.tr (by rw [← hh16]; exact z_K.put f15_mo (by simp))
  refine lv_aload_n hx hb d_M_init_84 rfl (lv_at hl 0 rfl) ?_
  refine lv_sipush (v := 2000) hx hb d_M_init_85 (by decide) ?_
  refine z_newa (atype := .int) (N' := 2000) (a0 := (2000, .inl (fun _ => 0))) hx hb hts (z_in k_82 rfl) hK hw hA 1 rfl rfl (fun C z => by cases z) (fun cA => rfl) (by decide) (by rfl) (by show _ ≤ _; simp [componentBytes]; try omega) (by first | exact Nat.le_of_ble_eq_true rfl | (dsimp only; omega) | omega) (by first | exact Nat.le_of_ble_eq_true rfl | (dsimp only; omega) | omega) d_M_init_88 (29, 2) (fun q_nodeFrom H n_q_nodeFrom hw => ?_)
  obtain ⟨h17, hh17⟩ : ∃ x9, z_put h16 q_nodeFrom (29, 2) (.inl (g.2.1 1, 2000, .inl (fun _ => 0))) = x9 := ⟨_, rfl⟩
  have hw : z_S g A s.heap h17 H locs := by rw [← hh17]; exact hw
  have ne_mo_q_nodeFrom : z_NE mo q_nodeFrom := (show mo ≠ q_nodeFrom from fun z => by have z2 := f16_mo; rw [z, n_q_nodeFrom] at z2; cases z2)
  have ne_q_tape_q_nodeFrom : z_NE q_tape q_nodeFrom := (show q_tape ≠ q_nodeFrom from fun z => by have z2 := f16_q_tape; rw [z, n_q_nodeFrom] at z2; cases z2)
  have ne_q_text_q_nodeFrom : z_NE q_text q_nodeFrom := (show q_text ≠ q_nodeFrom from fun z => by have z2 := f16_q_text; rw [z, n_q_nodeFrom] at z2; cases z2)
  have ne_q_letters_q_nodeFrom : z_NE q_letters q_nodeFrom := (show q_letters ≠ q_nodeFrom from fun z => by have z2 := f16_q_letters; rw [z, n_q_nodeFrom] at z2; cases z2)
  have ne_q_freshLetters_q_nodeFrom : z_NE q_freshLetters q_nodeFrom := (show q_freshLetters ≠ q_nodeFrom from fun z => by have z2 := f16_q_freshLetters; rw [z, n_q_nodeFrom] at z2; cases z2)
  have ne_q_nodeField_q_nodeFrom : z_NE q_nodeField q_nodeFrom := (show q_nodeField ≠ q_nodeFrom from fun z => by have z2 := f16_q_nodeField; rw [z, n_q_nodeFrom] at z2; cases z2)
  have ne_q_nodeParent_q_nodeFrom : z_NE q_nodeParent q_nodeFrom := (show q_nodeParent ≠ q_nodeFrom from fun z => by have z2 := f16_q_nodeParent; rw [z, n_q_nodeFrom] at z2; cases z2)
  have f17_mo : h17 mo = some ((20, 0), .inr (11, [.int 0, .ref q_tape, .ref q_text, .int 0, .int 0, .ref q_rows, .ref q_fresh, .ref q_letters, .ref q_freshLetters, .int 0, .int 0, .int 0, .int 0, .ref q_nodeField, .ref q_nodeParent, .null, .null, .null, .int 0, .int 0, .null, .null, .null, .null, .null, .null, .null, .null, .int 0, .int 0, .int 0])) := by rw [← hh17]; exact z_keepN n_q_nodeFrom f16_mo
  have f17_q_tape : h17 q_tape = some ((21, 0), .inl (g.2.1 1, 4000, .inl (fun _ => 0))) := by rw [← hh17]; exact z_keepN n_q_nodeFrom f16_q_tape
  have f17_q_text : h17 q_text = some ((22, 0), .inl (g.2.1 1, 4000, .inl (fun _ => 0))) := by rw [← hh17]; exact z_keepN n_q_nodeFrom f16_q_text
  have f17_q_letters : h17 q_letters = some ((27, 0), .inl (g.2.1 1, 2048, .inl (fun _ => 0))) := by rw [← hh17]; exact z_keepN n_q_nodeFrom f16_q_letters
  have f17_q_freshLetters : h17 q_freshLetters = some ((28, 0), .inl (g.2.1 1, 2048, .inl (fun _ => 0))) := by rw [← hh17]; exact z_keepN n_q_nodeFrom f16_q_freshLetters
  have f17_q_nodeField : h17 q_nodeField = some ((29, 0), .inl (g.2.1 1, 2000, .inl (fun _ => 0))) := by rw [← hh17]; exact z_keepN n_q_nodeFrom f16_q_nodeField
  have f17_q_nodeParent : h17 q_nodeParent = some ((29, 1), .inl (g.2.1 1, 2000, .inl (fun _ => 0))) := by rw [← hh17]; exact z_keepN n_q_nodeFrom f16_q_nodeParent
  have f17_q_nodeFrom : h17 q_nodeFrom = some ((29, 2), .inl (g.2.1 1, 2000, .inl (fun _ => 0))) := by rw [← hh17]; exact z_put_eq
  have kk17 : z_K (fun y => 20 ≤ y ∧ y < 40) h h17 := kk16.tr (by rw [← hh17]; exact z_K.new n_q_nodeFrom)
  have sg_rowsh17 : z_K (fun y => y = 20 ∨ y = 29) h5 h17 := sg_rowsh16.tr (by rw [← hh17]; exact z_K.new n_q_nodeFrom)
  have sg_freshh17 : z_K (fun y => y = 20 ∨ y = 29) h7 h17 := sg_freshh16.tr (by rw [← hh17]; exact z_K.new n_q_nodeFrom)
  refine z_putF (ty := .array .int) hx hb hts (z_lay i_M) t_M t_M_ok n_M hown hK hw f17_mo rfl 15 (by decide) (z_in k_786 rfl) (fun _ h9 => h9) rfl hnm rfl (by decide +kernel) rfl rfl (Nat.le_of_ble_eq_true rfl) d_M_init_90 (fun H locs hw => ?_)
  obtain ⟨h18, hh18⟩ : ∃ x9, z_put h17 mo (20, 0) (.inr (11, [.int 0, .ref q_tape, .ref q_text, .int 0, .int 0, .ref q_rows, .ref q_fresh, .ref q_letters, .ref q_freshLetters, .int 0, .int 0, .int 0, .int 0, .ref q_nodeField, .ref q_nodeParent, .ref q_nodeFrom, .null, .null, .int 0, .int 0, .null, .null, .null, .null, .null, .null, .null, .null, .int 0, .int 0, .int 0])) = x9 := ⟨_, rfl⟩
  have hw : z_S g A s.heap h18 H locs := by rw [← hh18]; exact hw
  have f18_mo : h18 mo = some ((20, 0), .inr (11, [.int 0, .ref q_tape, .ref q_text, .int 0, .int 0, .ref q_rows, .ref q_fresh, .ref q_letters, .ref q_freshLetters, .int 0, .int 0, .int 0, .int 0, .ref q_nodeField, .ref q_nodeParent, .ref q_nodeFrom, .null, .null, .int 0, .int 0, .null, .null, .null, .null, .null, .null, .null, .null, .int 0, .int 0, .int 0])) := by rw [← hh18]; exact z_put_eq
  have f18_q_tape : h18 q_tape = some ((21, 0), .inl (g.2.1 1, 4000, .inl (fun _ => 0))) := by rw [← hh18]; exact (z_put_ne (Ne.symm ne_mo_q_tape)).trans f17_q_tape
  have f18_q_text : h18 q_text = some ((22, 0), .inl (g.2.1 1, 4000, .inl (fun _ => 0))) := by rw [← hh18]; exact (z_put_ne (Ne.symm ne_mo_q_text)).trans f17_q_text
  have f18_q_letters : h18 q_letters = some ((27, 0), .inl (g.2.1 1, 2048, .inl (fun _ => 0))) := by rw [← hh18]; exact (z_put_ne (Ne.symm ne_mo_q_letters)).trans f17_q_letters
  have f18_q_freshLetters : h18 q_freshLetters = some ((28, 0), .inl (g.2.1 1, 2048, .inl (fun _ => 0))) := by rw [← hh18]; exact (z_put_ne (Ne.symm ne_mo_q_freshLetters)).trans f17_q_freshLetters
  have f18_q_nodeField : h18 q_nodeField = some ((29, 0), .inl (g.2.1 1, 2000, .inl (fun _ => 0))) := by rw [← hh18]; exact (z_put_ne (Ne.symm ne_mo_q_nodeField)).trans f17_q_nodeField
  have f18_q_nodeParent : h18 q_nodeParent = some ((29, 1), .inl (g.2.1 1, 2000, .inl (fun _ => 0))) := by rw [← hh18]; exact (z_put_ne (Ne.symm ne_mo_q_nodeParent)).trans f17_q_nodeParent
  have f18_q_nodeFrom : h18 q_nodeFrom = some ((29, 2), .inl (g.2.1 1, 2000, .inl (fun _ => 0))) := by rw [← hh18]; exact (z_put_ne (Ne.symm ne_mo_q_nodeFrom)).trans f17_q_nodeFrom
  have kk18 : z_K (fun y => 20 ≤ y ∧ y < 40) h h18 := kk17.tr (by rw [← hh18]; exact z_K.put f17_mo (by first | decide | simp | omega))
  have sg_rowsh18 : z_K (fun y => y = 20 ∨ y = 29) h5 h18 := sg_rowsh17.tr (by rw [← hh18]; exact z_K.put f17_mo (by simp))
  have sg_freshh18 : z_K (fun y => y = 20 ∨ y = 29) h7 h18 := sg_freshh17.tr (by rw [← hh18]; exact z_K.put f17_mo (by simp))
  refine lv_aload_n hx hb d_M_init_93 rfl (lv_at hl 0 rfl) ?_
  refine lv_sipush (v := 2000) hx hb d_M_init_94 (by decide) ?_
  refine z_newa (atype := .int) (N' := 2000) (a0 := (2000, .inl (fun _ => 0))) hx hb hts (z_in k_82 rfl) hK hw hA 1 rfl rfl (fun C z => by cases z) (fun cA => rfl) (by decide) (by rfl) (by show _ ≤ _; simp [componentBytes]; try omega) (by first | exact Nat.le_of_ble_eq_true rfl | (dsimp only; omega) | omega) (by first | exact Nat.le_of_ble_eq_true rfl | (dsimp only; omega) | omega) d_M_init_97 (29, 3) (fun q_nodeSize H n_q_nodeSize hw => ?_)
  obtain ⟨h19, hh19⟩ : ∃ x9, z_put h18 q_nodeSize (29, 3) (.inl (g.2.1 1, 2000, .inl (fun _ => 0))) = x9 := ⟨_, rfl⟩
  have hw : z_S g A s.heap h19 H locs := by rw [← hh19]; exact hw
  have ne_mo_q_nodeSize : z_NE mo q_nodeSize := (show mo ≠ q_nodeSize from fun z => by have z2 := f18_mo; rw [z, n_q_nodeSize] at z2; cases z2)
  have ne_q_tape_q_nodeSize : z_NE q_tape q_nodeSize := (show q_tape ≠ q_nodeSize from fun z => by have z2 := f18_q_tape; rw [z, n_q_nodeSize] at z2; cases z2)
  have ne_q_text_q_nodeSize : z_NE q_text q_nodeSize := (show q_text ≠ q_nodeSize from fun z => by have z2 := f18_q_text; rw [z, n_q_nodeSize] at z2; cases z2)
  have ne_q_letters_q_nodeSize : z_NE q_letters q_nodeSize := (show q_letters ≠ q_nodeSize from fun z => by have z2 := f18_q_letters; rw [z, n_q_nodeSize] at z2; cases z2)
  have ne_q_freshLetters_q_nodeSize : z_NE q_freshLetters q_nodeSize := (show q_freshLetters ≠ q_nodeSize from fun z => by have z2 := f18_q_freshLetters; rw [z, n_q_nodeSize] at z2; cases z2)
  have ne_q_nodeField_q_nodeSize : z_NE q_nodeField q_nodeSize := (show q_nodeField ≠ q_nodeSize from fun z => by have z2 := f18_q_nodeField; rw [z, n_q_nodeSize] at z2; cases z2)
  have ne_q_nodeParent_q_nodeSize : z_NE q_nodeParent q_nodeSize := (show q_nodeParent ≠ q_nodeSize from fun z => by have z2 := f18_q_nodeParent; rw [z, n_q_nodeSize] at z2; cases z2)
  have ne_q_nodeFrom_q_nodeSize : z_NE q_nodeFrom q_nodeSize := (show q_nodeFrom ≠ q_nodeSize from fun z => by have z2 := f18_q_nodeFrom; rw [z, n_q_nodeSize] at z2; cases z2)
  have f19_mo : h19 mo = some ((20, 0), .inr (11, [.int 0, .ref q_tape, .ref q_text, .int 0, .int 0, .ref q_rows, .ref q_fresh, .ref q_letters, .ref q_freshLetters, .int 0, .int 0, .int 0, .int 0, .ref q_nodeField, .ref q_nodeParent, .ref q_nodeFrom, .null, .null, .int 0, .int 0, .null, .null, .null, .null, .null, .null, .null, .null, .int 0, .int 0, .int 0])) := by rw [← hh19]; exact z_keepN n_q_nodeSize f18_mo
  have f19_q_tape : h19 q_tape = some ((21, 0), .inl (g.2.1 1, 4000, .inl (fun _ => 0))) := by rw [← hh19]; exact z_keepN n_q_nodeSize f18_q_tape
  have f19_q_text : h19 q_text = some ((22, 0), .inl (g.2.1 1, 4000, .inl (fun _ => 0))) := by rw [← hh19]; exact z_keepN n_q_nodeSize f18_q_text
  have f19_q_letters : h19 q_letters = some ((27, 0), .inl (g.2.1 1, 2048, .inl (fun _ => 0))) := by rw [← hh19]; exact z_keepN n_q_nodeSize f18_q_letters
  have f19_q_freshLetters : h19 q_freshLetters = some ((28, 0), .inl (g.2.1 1, 2048, .inl (fun _ => 0))) := by rw [← hh19]; exact z_keepN n_q_nodeSize f18_q_freshLetters
  have f19_q_nodeField : h19 q_nodeField = some ((29, 0), .inl (g.2.1 1, 2000, .inl (fun _ => 0))) := by rw [← hh19]; exact z_keepN n_q_nodeSize f18_q_nodeField
  have f19_q_nodeParent : h19 q_nodeParent = some ((29, 1), .inl (g.2.1 1, 2000, .inl (fun _ => 0))) := by rw [← hh19]; exact z_keepN n_q_nodeSize f18_q_nodeParent
  have f19_q_nodeFrom : h19 q_nodeFrom = some ((29, 2), .inl (g.2.1 1, 2000, .inl (fun _ => 0))) := by rw [← hh19]; exact z_keepN n_q_nodeSize f18_q_nodeFrom
  have f19_q_nodeSize : h19 q_nodeSize = some ((29, 3), .inl (g.2.1 1, 2000, .inl (fun _ => 0))) := by rw [← hh19]; exact z_put_eq
  have kk19 : z_K (fun y => 20 ≤ y ∧ y < 40) h h19 := kk18.tr (by rw [← hh19]; exact z_K.new n_q_nodeSize)
  have sg_rowsh19 : z_K (fun y => y = 20 ∨ y = 29) h5 h19 := sg_rowsh18.tr (by rw [← hh19]; exact z_K.new n_q_nodeSize)
  have sg_freshh19 : z_K (fun y => y = 20 ∨ y = 29) h7 h19 := sg_freshh18.tr (by rw [← hh19]; exact z_K.new n_q_nodeSize)
  refine z_putF (ty := .array .int) hx hb hts (z_lay i_M) t_M t_M_ok n_M hown hK hw f19_mo rfl 16 (by decide) (z_in k_787 rfl) (fun _ h9 => h9) rfl hnm rfl (by decide +kernel) rfl rfl (Nat.le_of_ble_eq_true rfl) d_M_init_99 (fun H locs hw => ?_)
  obtain ⟨h20, hh20⟩ : ∃ x9, z_put h19 mo (20, 0) (.inr (11, [.int 0, .ref q_tape, .ref q_text, .int 0, .int 0, .ref q_rows, .ref q_fresh, .ref q_letters, .ref q_freshLetters, .int 0, .int 0, .int 0, .int 0, .ref q_nodeField, .ref q_nodeParent, .ref q_nodeFrom, .ref q_nodeSize, .null, .int 0, .int 0, .null, .null, .null, .null, .null, .null, .null, .null, .int 0, .int 0, .int 0])) = x9 := ⟨_, rfl⟩
  have hw : z_S g A s.heap h20 H locs := by rw [← hh20]; exact hw
  have f20_mo : h20 mo = some ((20, 0), .inr (11, [.int 0, .ref q_tape, .ref q_text, .int 0, .int 0, .ref q_rows, .ref q_fresh, .ref q_letters, .ref q_freshLetters, .int 0, .int 0, .int 0, .int 0, .ref q_nodeField, .ref q_nodeParent, .ref q_nodeFrom, .ref q_nodeSize, .null, .int 0, .int 0, .null, .null, .null, .null, .null, .null, .null, .null, .int 0, .int 0, .int 0])) := by rw [← hh20]; exact z_put_eq
  have f20_q_tape : h20 q_tape = some ((21, 0), .inl (g.2.1 1, 4000, .inl (fun _ => 0))) := by rw [← hh20]; exact (z_put_ne (Ne.symm ne_mo_q_tape)).trans f19_q_tape
  have f20_q_text : h20 q_text = some ((22, 0), .inl (g.2.1 1, 4000, .inl (fun _ => 0))) := by rw [← hh20]; exact (z_put_ne (Ne.symm ne_mo_q_text)).trans f19_q_text
  have f20_q_letters : h20 q_letters = some ((27, 0), .inl (g.2.1 1, 2048, .inl (fun _ => 0))) := by rw [← hh20]; exact (z_put_ne (Ne.symm ne_mo_q_letters)).trans f19_q_letters
  have f20_q_freshLetters : h20 q_freshLetters = some ((28, 0), .inl (g.2.1 1, 2048, .inl (fun _ => 0))) := by rw [← hh20]; exact (z_put_ne (Ne.symm ne_mo_q_freshLetters)).trans f19_q_freshLetters
  have f20_q_nodeField : h20 q_nodeField = some ((29, 0), .inl (g.2.1 1, 2000, .inl (fun _ => 0))) := by rw [← hh20]; exact (z_put_ne (Ne.symm ne_mo_q_nodeField)).trans f19_q_nodeField
  have f20_q_nodeParent : h20 q_nodeParent = some ((29, 1), .inl (g.2.1 1, 2000, .inl (fun _ => 0))) := by rw [← hh20]; exact (z_put_ne (Ne.symm ne_mo_q_nodeParent)).trans f19_q_nodeParent
  have f20_q_nodeFrom : h20 q_nodeFrom = some ((29, 2), .inl (g.2.1 1, 2000, .inl (fun _ => 0))) := by rw [← hh20]; exact (z_put_ne (Ne.symm ne_mo_q_nodeFrom)).trans f19_q_nodeFrom
  have f20_q_nodeSize : h20 q_nodeSize = some ((29, 3), .inl (g.2.1 1, 2000, .inl (fun _ => 0))) := by rw [← hh20]; exact (z_put_ne (Ne.symm ne_mo_q_nodeSize)).trans f19_q_nodeSize
  have kk20 : z_K (fun y => 20 ≤ y ∧ y < 40) h h20 := kk19.tr (by rw [← hh20]; exact z_K.put f19_mo (by first | decide | simp | omega))
  have sg_rowsh20 : z_K (fun y => y = 20 ∨ y = 29) h5 h20 := sg_rowsh19.tr (by rw [← hh20]; exact z_K.put f19_mo (by simp))
  have sg_freshh20 : z_K (fun y => y = 20 ∨ y = 29) h7 h20 := sg_freshh19.tr (by rw [← hh20]; exact z_K.put f19_mo (by simp))
  refine lv_aload_n hx hb d_M_init_102 rfl (lv_at hl 0 rfl) ?_
  refine lv_sipush (v := 2000) hx hb d_M_init_103 (by decide) ?_
  refine z_newa (atype := .long) (N' := 2000) (a0 := (2000, .inr (.inl (fun _ => 0)))) hx hb hts (z_in k_865 rfl) hK hw hA 2 rfl rfl (fun C z => by cases z) (fun cA => rfl) (by decide) (by rfl) (by show _ ≤ _; simp [componentBytes]; try omega) (by first | exact Nat.le_of_ble_eq_true rfl | (dsimp only; omega) | omega) (by first | exact Nat.le_of_ble_eq_true rfl | (dsimp only; omega) | omega) d_M_init_106 (30, 0) (fun q_nodeValue H n_q_nodeValue hw => ?_)
  obtain ⟨h21, hh21⟩ : ∃ x9, z_put h20 q_nodeValue (30, 0) (.inl (g.2.1 2, 2000, .inr (.inl (fun _ => 0)))) = x9 := ⟨_, rfl⟩
  have hw : z_S g A s.heap h21 H locs := by rw [← hh21]; exact hw
  have ne_mo_q_nodeValue : z_NE mo q_nodeValue := (show mo ≠ q_nodeValue from fun z => by have z2 := f20_mo; rw [z, n_q_nodeValue] at z2; cases z2)
  have ne_q_tape_q_nodeValue : z_NE q_tape q_nodeValue := (show q_tape ≠ q_nodeValue from fun z => by have z2 := f20_q_tape; rw [z, n_q_nodeValue] at z2; cases z2)
  have ne_q_text_q_nodeValue : z_NE q_text q_nodeValue := (show q_text ≠ q_nodeValue from fun z => by have z2 := f20_q_text; rw [z, n_q_nodeValue] at z2; cases z2)
  have ne_q_letters_q_nodeValue : z_NE q_letters q_nodeValue := (show q_letters ≠ q_nodeValue from fun z => by have z2 := f20_q_letters; rw [z, n_q_nodeValue] at z2; cases z2)
  have ne_q_freshLetters_q_nodeValue : z_NE q_freshLetters q_nodeValue := (show q_freshLetters ≠ q_nodeValue from fun z => by have z2 := f20_q_freshLetters; rw [z, n_q_nodeValue] at z2; cases z2)
  have ne_q_nodeField_q_nodeValue : z_NE q_nodeField q_nodeValue := (show q_nodeField ≠ q_nodeValue from fun z => by have z2 := f20_q_nodeField; rw [z, n_q_nodeValue] at z2; cases z2)
  have ne_q_nodeParent_q_nodeValue : z_NE q_nodeParent q_nodeValue := (show q_nodeParent ≠ q_nodeValue from fun z => by have z2 := f20_q_nodeParent; rw [z, n_q_nodeValue] at z2; cases z2)
  have ne_q_nodeFrom_q_nodeValue : z_NE q_nodeFrom q_nodeValue := (show q_nodeFrom ≠ q_nodeValue from fun z => by have z2 := f20_q_nodeFrom; rw [z, n_q_nodeValue] at z2; cases z2)
  have ne_q_nodeSize_q_nodeValue : z_NE q_nodeSize q_nodeValue := (show q_nodeSize ≠ q_nodeValue from fun z => by have z2 := f20_q_nodeSize; rw [z, n_q_nodeValue] at z2; cases z2)
  have f21_mo : h21 mo = some ((20, 0), .inr (11, [.int 0, .ref q_tape, .ref q_text, .int 0, .int 0, .ref q_rows, .ref q_fresh, .ref q_letters, .ref q_freshLetters, .int 0, .int 0, .int 0, .int 0, .ref q_nodeField, .ref q_nodeParent, .ref q_nodeFrom, .ref q_nodeSize, .null, .int 0, .int 0, .null, .null, .null, .null, .null, .null, .null, .null, .int 0, .int 0, .int 0])) := by rw [← hh21]; exact z_keepN n_q_nodeValue f20_mo
  have f21_q_tape : h21 q_tape = some ((21, 0), .inl (g.2.1 1, 4000, .inl (fun _ => 0))) := by rw [← hh21]; exact z_keepN n_q_nodeValue f20_q_tape
  have f21_q_text : h21 q_text = some ((22, 0), .inl (g.2.1 1, 4000, .inl (fun _ => 0))) := by rw [← hh21]; exact z_keepN n_q_nodeValue f20_q_text
  have f21_q_letters : h21 q_letters = some ((27, 0), .inl (g.2.1 1, 2048, .inl (fun _ => 0))) := by rw [← hh21]; exact z_keepN n_q_nodeValue f20_q_letters
  have f21_q_freshLetters : h21 q_freshLetters = some ((28, 0), .inl (g.2.1 1, 2048, .inl (fun _ => 0))) := by rw [← hh21]; exact z_keepN n_q_nodeValue f20_q_freshLetters
  have f21_q_nodeField : h21 q_nodeField = some ((29, 0), .inl (g.2.1 1, 2000, .inl (fun _ => 0))) := by rw [← hh21]; exact z_keepN n_q_nodeValue f20_q_nodeField
  have f21_q_nodeParent : h21 q_nodeParent = some ((29, 1), .inl (g.2.1 1, 2000, .inl (fun _ => 0))) := by rw [← hh21]; exact z_keepN n_q_nodeValue f20_q_nodeParent
  have f21_q_nodeFrom : h21 q_nodeFrom = some ((29, 2), .inl (g.2.1 1, 2000, .inl (fun _ => 0))) := by rw [← hh21]; exact z_keepN n_q_nodeValue f20_q_nodeFrom
  have f21_q_nodeSize : h21 q_nodeSize = some ((29, 3), .inl (g.2.1 1, 2000, .inl (fun _ => 0))) := by rw [← hh21]; exact z_keepN n_q_nodeValue f20_q_nodeSize
  have f21_q_nodeValue : h21 q_nodeValue = some ((30, 0), .inl (g.2.1 2, 2000, .inr (.inl (fun _ => 0)))) := by rw [← hh21]; exact z_put_eq
  have kk21 : z_K (fun y => 20 ≤ y ∧ y < 40) h h21 := kk20.tr (by rw [← hh21]; exact z_K.new n_q_nodeValue)
  have sg_rowsh21 : z_K (fun y => y = 20 ∨ y = 29) h5 h21 := sg_rowsh20.tr (by rw [← hh21]; exact z_K.new n_q_nodeValue)
  have sg_freshh21 : z_K (fun y => y = 20 ∨ y = 29) h7 h21 := sg_freshh20.tr (by rw [← hh21]; exact z_K.new n_q_nodeValue)
  refine z_putF (ty := .array .long) hx hb hts (z_lay i_M) t_M t_M_ok n_M hown hK hw f21_mo rfl 17 (by decide) (z_in k_788 rfl) (fun _ h9 => h9) rfl hnm rfl (by decide +kernel) rfl rfl (Nat.le_of_ble_eq_true rfl) d_M_init_108 (fun H locs hw => ?_)
  obtain ⟨h22, hh22⟩ : ∃ x9, z_put h21 mo (20, 0) (.inr (11, [.int 0, .ref q_tape, .ref q_text, .int 0, .int 0, .ref q_rows, .ref q_fresh, .ref q_letters, .ref q_freshLetters, .int 0, .int 0, .int 0, .int 0, .ref q_nodeField, .ref q_nodeParent, .ref q_nodeFrom, .ref q_nodeSize, .ref q_nodeValue, .int 0, .int 0, .null, .null, .null, .null, .null, .null, .null, .null, .int 0, .int 0, .int 0])) = x9 := ⟨_, rfl⟩
  have hw : z_S g A s.heap h22 H locs := by rw [← hh22]; exact hw
  have f22_mo : h22 mo = some ((20, 0), .inr (11, [.int 0, .ref q_tape, .ref q_text, .int 0, .int 0, .ref q_rows, .ref q_fresh, .ref q_letters, .ref q_freshLetters, .int 0, .int 0, .int 0, .int 0, .ref q_nodeField, .ref q_nodeParent, .ref q_nodeFrom, .ref q_nodeSize, .ref q_nodeValue, .int 0, .int 0, .null, .null, .null, .null, .null, .null, .null, .null, .int 0, .int 0, .int 0])) := by rw [← hh22]; exact z_put_eq
  have f22_q_tape : h22 q_tape = some ((21, 0), .inl (g.2.1 1, 4000, .inl (fun _ => 0))) := by rw [← hh22]; exact (z_put_ne (Ne.symm ne_mo_q_tape)).trans f21_q_tape
  have f22_q_text : h22 q_text = some ((22, 0), .inl (g.2.1 1, 4000, .inl (fun _ => 0))) := by rw [← hh22]; exact (z_put_ne (Ne.symm ne_mo_q_text)).trans f21_q_text
  have f22_q_letters : h22 q_letters = some ((27, 0), .inl (g.2.1 1, 2048, .inl (fun _ => 0))) := by rw [← hh22]; exact (z_put_ne (Ne.symm ne_mo_q_letters)).trans f21_q_letters
  have f22_q_freshLetters : h22 q_freshLetters = some ((28, 0), .inl (g.2.1 1, 2048, .inl (fun _ => 0))) := by rw [← hh22]; exact (z_put_ne (Ne.symm ne_mo_q_freshLetters)).trans f21_q_freshLetters
  have f22_q_nodeField : h22 q_nodeField = some ((29, 0), .inl (g.2.1 1, 2000, .inl (fun _ => 0))) := by rw [← hh22]; exact (z_put_ne (Ne.symm ne_mo_q_nodeField)).trans f21_q_nodeField
  have f22_q_nodeParent : h22 q_nodeParent = some ((29, 1), .inl (g.2.1 1, 2000, .inl (fun _ => 0))) := by rw [← hh22]; exact (z_put_ne (Ne.symm ne_mo_q_nodeParent)).trans f21_q_nodeParent
  have f22_q_nodeFrom : h22 q_nodeFrom = some ((29, 2), .inl (g.2.1 1, 2000, .inl (fun _ => 0))) := by rw [← hh22]; exact (z_put_ne (Ne.symm ne_mo_q_nodeFrom)).trans f21_q_nodeFrom
  have f22_q_nodeSize : h22 q_nodeSize = some ((29, 3), .inl (g.2.1 1, 2000, .inl (fun _ => 0))) := by rw [← hh22]; exact (z_put_ne (Ne.symm ne_mo_q_nodeSize)).trans f21_q_nodeSize
  have f22_q_nodeValue : h22 q_nodeValue = some ((30, 0), .inl (g.2.1 2, 2000, .inr (.inl (fun _ => 0)))) := by rw [← hh22]; exact (z_put_ne (Ne.symm ne_mo_q_nodeValue)).trans f21_q_nodeValue
  have kk22 : z_K (fun y => 20 ≤ y ∧ y < 40) h h22 := kk21.tr (by rw [← hh22]; exact z_K.put f21_mo (by first | decide | simp | omega))
  have sg_rowsh22 : z_K (fun y => y = 20 ∨ y = 29) h5 h22 := sg_rowsh21.tr (by rw [← hh22]; exact z_K.put f21_mo (by simp))
  have sg_freshh22 : z_K (fun y => y = 20 ∨ y = 29) h7 h22 := sg_freshh21.tr (by rw [← hh22]; exact z_K.put f21_mo (by simp))
  refine lv_aload_n hx hb d_M_init_111 rfl (lv_at hl 0 rfl) ?_
  refine lv_iconst (v := 1) hx hb d_M_init_112 (by decide) ?_
  refine z_putf (ty := .int) hx hb hts (z_lay i_M) t_M t_M_ok n_M hown hK hw f22_mo rfl 18 (by decide) (z_in k_789 rfl) (fun _ h9 => h9) rfl (by decide +kernel) rfl rfl (Nat.le_of_ble_eq_true rfl) d_M_init_113 (fun H locs hw => ?_)
  obtain ⟨h23, hh23⟩ : ∃ x9, z_put h22 mo (20, 0) (.inr (11, [.int 0, .ref q_tape, .ref q_text, .int 0, .int 0, .ref q_rows, .ref q_fresh, .ref q_letters, .ref q_freshLetters, .int 0, .int 0, .int 0, .int 0, .ref q_nodeField, .ref q_nodeParent, .ref q_nodeFrom, .ref q_nodeSize, .ref q_nodeValue, .int 1, .int 0, .null, .null, .null, .null, .null, .null, .null, .null, .int 0, .int 0, .int 0])) = x9 := ⟨_, rfl⟩
  have hw : z_S g A s.heap h23 H locs := by rw [← hh23]; exact hw
  have f23_mo : h23 mo = some ((20, 0), .inr (11, [.int 0, .ref q_tape, .ref q_text, .int 0, .int 0, .ref q_rows, .ref q_fresh, .ref q_letters, .ref q_freshLetters, .int 0, .int 0, .int 0, .int 0, .ref q_nodeField, .ref q_nodeParent, .ref q_nodeFrom, .ref q_nodeSize, .ref q_nodeValue, .int 1, .int 0, .null, .null, .null, .null, .null, .null, .null, .null, .int 0, .int 0, .int 0])) := by rw [← hh23]; exact z_put_eq
  have f23_q_tape : h23 q_tape = some ((21, 0), .inl (g.2.1 1, 4000, .inl (fun _ => 0))) := by rw [← hh23]; exact (z_put_ne (Ne.symm ne_mo_q_tape)).trans f22_q_tape
  have f23_q_text : h23 q_text = some ((22, 0), .inl (g.2.1 1, 4000, .inl (fun _ => 0))) := by rw [← hh23]; exact (z_put_ne (Ne.symm ne_mo_q_text)).trans f22_q_text
  have f23_q_letters : h23 q_letters = some ((27, 0), .inl (g.2.1 1, 2048, .inl (fun _ => 0))) := by rw [← hh23]; exact (z_put_ne (Ne.symm ne_mo_q_letters)).trans f22_q_letters
  have f23_q_freshLetters : h23 q_freshLetters = some ((28, 0), .inl (g.2.1 1, 2048, .inl (fun _ => 0))) := by rw [← hh23]; exact (z_put_ne (Ne.symm ne_mo_q_freshLetters)).trans f22_q_freshLetters
  have f23_q_nodeField : h23 q_nodeField = some ((29, 0), .inl (g.2.1 1, 2000, .inl (fun _ => 0))) := by rw [← hh23]; exact (z_put_ne (Ne.symm ne_mo_q_nodeField)).trans f22_q_nodeField
  have f23_q_nodeParent : h23 q_nodeParent = some ((29, 1), .inl (g.2.1 1, 2000, .inl (fun _ => 0))) := by rw [← hh23]; exact (z_put_ne (Ne.symm ne_mo_q_nodeParent)).trans f22_q_nodeParent
  have f23_q_nodeFrom : h23 q_nodeFrom = some ((29, 2), .inl (g.2.1 1, 2000, .inl (fun _ => 0))) := by rw [← hh23]; exact (z_put_ne (Ne.symm ne_mo_q_nodeFrom)).trans f22_q_nodeFrom
  have f23_q_nodeSize : h23 q_nodeSize = some ((29, 3), .inl (g.2.1 1, 2000, .inl (fun _ => 0))) := by rw [← hh23]; exact (z_put_ne (Ne.symm ne_mo_q_nodeSize)).trans f22_q_nodeSize
  have f23_q_nodeValue : h23 q_nodeValue = some ((30, 0), .inl (g.2.1 2, 2000, .inr (.inl (fun _ => 0)))) := by rw [← hh23]; exact (z_put_ne (Ne.symm ne_mo_q_nodeValue)).trans f22_q_nodeValue
  have kk23 : z_K (fun y => 20 ≤ y ∧ y < 40) h h23 := kk22.tr (by rw [← hh23]; exact z_K.put f22_mo (by first | decide | simp | omega))
  have sg_rowsh23 : z_K (fun y => y = 20 ∨ y = 29) h5 h23 := sg_rowsh22.tr (by rw [← hh23]; exact z_K.put f22_mo (by simp))
  have sg_freshh23 : z_K (fun y => y = 20 ∨ y = 29) h7 h23 := sg_freshh22.tr (by rw [← hh23]; exact z_K.put f22_mo (by simp))
  refine lv_aload_n hx hb d_M_init_116 rfl (lv_at hl 0 rfl) ?_
  refine lv_sipush (v := 16000) hx hb d_M_init_117 (by decide) ?_
  refine z_newa (atype := .int) (N' := 16000) (a0 := (16000, .inl (fun _ => 0))) hx hb hts (z_in k_82 rfl) hK hw hA 1 rfl rfl (fun C z => by cases z) (fun cA => rfl) (by decide) (by rfl) (by show _ ≤ _; simp [componentBytes]; try omega) (by first | exact Nat.le_of_ble_eq_true rfl | (dsimp only; omega) | omega) (by first | exact Nat.le_of_ble_eq_true rfl | (dsimp only; omega) | omega) d_M_init_120 (31, 0) (fun q_texts H n_q_texts hw => ?_)
  obtain ⟨h24, hh24⟩ : ∃ x9, z_put h23 q_texts (31, 0) (.inl (g.2.1 1, 16000, .inl (fun _ => 0))) = x9 := ⟨_, rfl⟩
  have hw : z_S g A s.heap h24 H locs := by rw [← hh24]; exact hw
  have ne_mo_q_texts : z_NE mo q_texts := (show mo ≠ q_texts from fun z => by have z2 := f23_mo; rw [z, n_q_texts] at z2; cases z2)
  have ne_q_tape_q_texts : z_NE q_tape q_texts := (show q_tape ≠ q_texts from fun z => by have z2 := f23_q_tape; rw [z, n_q_texts] at z2; cases z2)
  have ne_q_text_q_texts : z_NE q_text q_texts := (show q_text ≠ q_texts from fun z => by have z2 := f23_q_text; rw [z, n_q_texts] at z2; cases z2)
  have ne_q_letters_q_texts : z_NE q_letters q_texts := (show q_letters ≠ q_texts from fun z => by have z2 := f23_q_letters; rw [z, n_q_texts] at z2; cases z2)
  have ne_q_freshLetters_q_texts : z_NE q_freshLetters q_texts := (show q_freshLetters ≠ q_texts from fun z => by have z2 := f23_q_freshLetters; rw [z, n_q_texts] at z2; cases z2)
  have ne_q_nodeField_q_texts : z_NE q_nodeField q_texts := (show q_nodeField ≠ q_texts from fun z => by have z2 := f23_q_nodeField; rw [z, n_q_texts] at z2; cases z2)
  have ne_q_nodeParent_q_texts : z_NE q_nodeParent q_texts := (show q_nodeParent ≠ q_texts from fun z => by have z2 := f23_q_nodeParent; rw [z, n_q_texts] at z2; cases z2)
  have ne_q_nodeFrom_q_texts : z_NE q_nodeFrom q_texts := (show q_nodeFrom ≠ q_texts from fun z => by have z2 := f23_q_nodeFrom; rw [z, n_q_texts] at z2; cases z2)
  have ne_q_nodeSize_q_texts : z_NE q_nodeSize q_texts := (show q_nodeSize ≠ q_texts from fun z => by have z2 := f23_q_nodeSize; rw [z, n_q_texts] at z2; cases z2)
  have ne_q_nodeValue_q_texts : z_NE q_nodeValue q_texts := (show q_nodeValue ≠ q_texts from fun z => by have z2 := f23_q_nodeValue; rw [z, n_q_texts] at z2; cases z2)
  have f24_mo : h24 mo = some ((20, 0), .inr (11, [.int 0, .ref q_tape, .ref q_text, .int 0, .int 0, .ref q_rows, .ref q_fresh, .ref q_letters, .ref q_freshLetters, .int 0, .int 0, .int 0, .int 0, .ref q_nodeField, .ref q_nodeParent, .ref q_nodeFrom, .ref q_nodeSize, .ref q_nodeValue, .int 1, .int 0, .null, .null, .null, .null, .null, .null, .null, .null, .int 0, .int 0, .int 0])) := by rw [← hh24]; exact z_keepN n_q_texts f23_mo
  have f24_q_tape : h24 q_tape = some ((21, 0), .inl (g.2.1 1, 4000, .inl (fun _ => 0))) := by rw [← hh24]; exact z_keepN n_q_texts f23_q_tape
  have f24_q_text : h24 q_text = some ((22, 0), .inl (g.2.1 1, 4000, .inl (fun _ => 0))) := by rw [← hh24]; exact z_keepN n_q_texts f23_q_text
  have f24_q_letters : h24 q_letters = some ((27, 0), .inl (g.2.1 1, 2048, .inl (fun _ => 0))) := by rw [← hh24]; exact z_keepN n_q_texts f23_q_letters
  have f24_q_freshLetters : h24 q_freshLetters = some ((28, 0), .inl (g.2.1 1, 2048, .inl (fun _ => 0))) := by rw [← hh24]; exact z_keepN n_q_texts f23_q_freshLetters
  have f24_q_nodeField : h24 q_nodeField = some ((29, 0), .inl (g.2.1 1, 2000, .inl (fun _ => 0))) := by rw [← hh24]; exact z_keepN n_q_texts f23_q_nodeField
  have f24_q_nodeParent : h24 q_nodeParent = some ((29, 1), .inl (g.2.1 1, 2000, .inl (fun _ => 0))) := by rw [← hh24]; exact z_keepN n_q_texts f23_q_nodeParent
  have f24_q_nodeFrom : h24 q_nodeFrom = some ((29, 2), .inl (g.2.1 1, 2000, .inl (fun _ => 0))) := by rw [← hh24]; exact z_keepN n_q_texts f23_q_nodeFrom
  have f24_q_nodeSize : h24 q_nodeSize = some ((29, 3), .inl (g.2.1 1, 2000, .inl (fun _ => 0))) := by rw [← hh24]; exact z_keepN n_q_texts f23_q_nodeSize
  have f24_q_nodeValue : h24 q_nodeValue = some ((30, 0), .inl (g.2.1 2, 2000, .inr (.inl (fun _ => 0)))) := by rw [← hh24]; exact z_keepN n_q_texts f23_q_nodeValue
  have f24_q_texts : h24 q_texts = some ((31, 0), .inl (g.2.1 1, 16000, .inl (fun _ => 0))) := by rw [← hh24]; exact z_put_eq
  have kk24 : z_K (fun y => 20 ≤ y ∧ y < 40) h h24 := kk23.tr (by rw [← hh24]; exact z_K.new n_q_texts)
  have sg_rowsh24 : z_K (fun y => y = 20 ∨ y = 29) h5 h24 := sg_rowsh23.tr (by rw [← hh24]; exact z_K.new n_q_texts)
  have sg_freshh24 : z_K (fun y => y = 20 ∨ y = 29) h7 h24 := sg_freshh23.tr (by rw [← hh24]; exact z_K.new n_q_texts)
  refine z_putF (ty := .array .int) hx hb hts (z_lay i_M) t_M t_M_ok n_M hown hK hw f24_mo rfl 20 (by decide) (z_in k_791 rfl) (fun _ h9 => h9) rfl hnm rfl (by decide +kernel) rfl rfl (Nat.le_of_ble_eq_true rfl) d_M_init_122 (fun H locs hw => ?_)
  obtain ⟨h25, hh25⟩ : ∃ x9, z_put h24 mo (20, 0) (.inr (11, [.int 0, .ref q_tape, .ref q_text, .int 0, .int 0, .ref q_rows, .ref q_fresh, .ref q_letters, .ref q_freshLetters, .int 0, .int 0, .int 0, .int 0, .ref q_nodeField, .ref q_nodeParent, .ref q_nodeFrom, .ref q_nodeSize, .ref q_nodeValue, .int 1, .int 0, .ref q_texts, .null, .null, .null, .null, .null, .null, .null, .int 0, .int 0, .int 0])) = x9 := ⟨_, rfl⟩
  have hw : z_S g A s.heap h25 H locs := by rw [← hh25]; exact hw
  have f25_mo : h25 mo = some ((20, 0), .inr (11, [.int 0, .ref q_tape, .ref q_text, .int 0, .int 0, .ref q_rows, .ref q_fresh, .ref q_letters, .ref q_freshLetters, .int 0, .int 0, .int 0, .int 0, .ref q_nodeField, .ref q_nodeParent, .ref q_nodeFrom, .ref q_nodeSize, .ref q_nodeValue, .int 1, .int 0, .ref q_texts, .null, .null, .null, .null, .null, .null, .null, .int 0, .int 0, .int 0])) := by rw [← hh25]; exact z_put_eq
  have f25_q_tape : h25 q_tape = some ((21, 0), .inl (g.2.1 1, 4000, .inl (fun _ => 0))) := by rw [← hh25]; exact (z_put_ne (Ne.symm ne_mo_q_tape)).trans f24_q_tape
  have f25_q_text : h25 q_text = some ((22, 0), .inl (g.2.1 1, 4000, .inl (fun _ => 0))) := by rw [← hh25]; exact (z_put_ne (Ne.symm ne_mo_q_text)).trans f24_q_text
  have f25_q_letters : h25 q_letters = some ((27, 0), .inl (g.2.1 1, 2048, .inl (fun _ => 0))) := by rw [← hh25]; exact (z_put_ne (Ne.symm ne_mo_q_letters)).trans f24_q_letters
  have f25_q_freshLetters : h25 q_freshLetters = some ((28, 0), .inl (g.2.1 1, 2048, .inl (fun _ => 0))) := by rw [← hh25]; exact (z_put_ne (Ne.symm ne_mo_q_freshLetters)).trans f24_q_freshLetters
  have f25_q_nodeField : h25 q_nodeField = some ((29, 0), .inl (g.2.1 1, 2000, .inl (fun _ => 0))) := by rw [← hh25]; exact (z_put_ne (Ne.symm ne_mo_q_nodeField)).trans f24_q_nodeField
  have f25_q_nodeParent : h25 q_nodeParent = some ((29, 1), .inl (g.2.1 1, 2000, .inl (fun _ => 0))) := by rw [← hh25]; exact (z_put_ne (Ne.symm ne_mo_q_nodeParent)).trans f24_q_nodeParent
  have f25_q_nodeFrom : h25 q_nodeFrom = some ((29, 2), .inl (g.2.1 1, 2000, .inl (fun _ => 0))) := by rw [← hh25]; exact (z_put_ne (Ne.symm ne_mo_q_nodeFrom)).trans f24_q_nodeFrom
  have f25_q_nodeSize : h25 q_nodeSize = some ((29, 3), .inl (g.2.1 1, 2000, .inl (fun _ => 0))) := by rw [← hh25]; exact (z_put_ne (Ne.symm ne_mo_q_nodeSize)).trans f24_q_nodeSize
  have f25_q_nodeValue : h25 q_nodeValue = some ((30, 0), .inl (g.2.1 2, 2000, .inr (.inl (fun _ => 0)))) := by rw [← hh25]; exact (z_put_ne (Ne.symm ne_mo_q_nodeValue)).trans f24_q_nodeValue
  have f25_q_texts : h25 q_texts = some ((31, 0), .inl (g.2.1 1, 16000, .inl (fun _ => 0))) := by rw [← hh25]; exact (z_put_ne (Ne.symm ne_mo_q_texts)).trans f24_q_texts
  have kk25 : z_K (fun y => 20 ≤ y ∧ y < 40) h h25 := kk24.tr (by rw [← hh25]; exact z_K.put f24_mo (by first | decide | simp | omega))
  have sg_rowsh25 : z_K (fun y => y = 20 ∨ y = 29) h5 h25 := sg_rowsh24.tr (by rw [← hh25]; exact z_K.put f24_mo (by simp))
  have sg_freshh25 : z_K (fun y => y = 20 ∨ y = 29) h7 h25 := sg_freshh24.tr (by rw [← hh25]; exact z_K.put f24_mo (by simp))
  refine lv_aload_n hx hb d_M_init_125 rfl (lv_at hl 0 rfl) ?_
  refine lv_sipush (v := 2000) hx hb d_M_init_126 (by decide) ?_
  refine z_newa (atype := .int) (N' := 2000) (a0 := (2000, .inl (fun _ => 0))) hx hb hts (z_in k_82 rfl) hK hw hA 1 rfl rfl (fun C z => by cases z) (fun cA => rfl) (by decide) (by rfl) (by show _ ≤ _; simp [componentBytes]; try omega) (by first | exact Nat.le_of_ble_eq_true rfl | (dsimp only; omega) | omega) (by first | exact Nat.le_of_ble_eq_true rfl | (dsimp only; omega) | omega) d_M_init_129 (32, 0) (fun q_oldField H n_q_oldField hw => ?_)
  obtain ⟨h26, hh26⟩ : ∃ x9, z_put h25 q_oldField (32, 0) (.inl (g.2.1 1, 2000, .inl (fun _ => 0))) = x9 := ⟨_, rfl⟩
  have hw : z_S g A s.heap h26 H locs := by rw [← hh26]; exact hw
  have ne_mo_q_oldField : z_NE mo q_oldField := (show mo ≠ q_oldField from fun z => by have z2 := f25_mo; rw [z, n_q_oldField] at z2; cases z2)
  have ne_q_tape_q_oldField : z_NE q_tape q_oldField := (show q_tape ≠ q_oldField from fun z => by have z2 := f25_q_tape; rw [z, n_q_oldField] at z2; cases z2)
  have ne_q_text_q_oldField : z_NE q_text q_oldField := (show q_text ≠ q_oldField from fun z => by have z2 := f25_q_text; rw [z, n_q_oldField] at z2; cases z2)
  have ne_q_letters_q_oldField : z_NE q_letters q_oldField := (show q_letters ≠ q_oldField from fun z => by have z2 := f25_q_letters; rw [z, n_q_oldField] at z2; cases z2)
  have ne_q_freshLetters_q_oldField : z_NE q_freshLetters q_oldField := (show q_freshLetters ≠ q_oldField from fun z => by have z2 := f25_q_freshLetters; rw [z, n_q_oldField] at z2; cases z2)
  have ne_q_nodeField_q_oldField : z_NE q_nodeField q_oldField := (show q_nodeField ≠ q_oldField from fun z => by have z2 := f25_q_nodeField; rw [z, n_q_oldField] at z2; cases z2)
  have ne_q_nodeParent_q_oldField : z_NE q_nodeParent q_oldField := (show q_nodeParent ≠ q_oldField from fun z => by have z2 := f25_q_nodeParent; rw [z, n_q_oldField] at z2; cases z2)
  have ne_q_nodeFrom_q_oldField : z_NE q_nodeFrom q_oldField := (show q_nodeFrom ≠ q_oldField from fun z => by have z2 := f25_q_nodeFrom; rw [z, n_q_oldField] at z2; cases z2)
  have ne_q_nodeSize_q_oldField : z_NE q_nodeSize q_oldField := (show q_nodeSize ≠ q_oldField from fun z => by have z2 := f25_q_nodeSize; rw [z, n_q_oldField] at z2; cases z2)
  have ne_q_nodeValue_q_oldField : z_NE q_nodeValue q_oldField := (show q_nodeValue ≠ q_oldField from fun z => by have z2 := f25_q_nodeValue; rw [z, n_q_oldField] at z2; cases z2)
  have ne_q_texts_q_oldField : z_NE q_texts q_oldField := (show q_texts ≠ q_oldField from fun z => by have z2 := f25_q_texts; rw [z, n_q_oldField] at z2; cases z2)
  have f26_mo : h26 mo = some ((20, 0), .inr (11, [.int 0, .ref q_tape, .ref q_text, .int 0, .int 0, .ref q_rows, .ref q_fresh, .ref q_letters, .ref q_freshLetters, .int 0, .int 0, .int 0, .int 0, .ref q_nodeField, .ref q_nodeParent, .ref q_nodeFrom, .ref q_nodeSize, .ref q_nodeValue, .int 1, .int 0, .ref q_texts, .null, .null, .null, .null, .null, .null, .null, .int 0, .int 0, .int 0])) := by rw [← hh26]; exact z_keepN n_q_oldField f25_mo
  have f26_q_tape : h26 q_tape = some ((21, 0), .inl (g.2.1 1, 4000, .inl (fun _ => 0))) := by rw [← hh26]; exact z_keepN n_q_oldField f25_q_tape
  have f26_q_text : h26 q_text = some ((22, 0), .inl (g.2.1 1, 4000, .inl (fun _ => 0))) := by rw [← hh26]; exact z_keepN n_q_oldField f25_q_text
  have f26_q_letters : h26 q_letters = some ((27, 0), .inl (g.2.1 1, 2048, .inl (fun _ => 0))) := by rw [← hh26]; exact z_keepN n_q_oldField f25_q_letters
  have f26_q_freshLetters : h26 q_freshLetters = some ((28, 0), .inl (g.2.1 1, 2048, .inl (fun _ => 0))) := by rw [← hh26]; exact z_keepN n_q_oldField f25_q_freshLetters
  have f26_q_nodeField : h26 q_nodeField = some ((29, 0), .inl (g.2.1 1, 2000, .inl (fun _ => 0))) := by rw [← hh26]; exact z_keepN n_q_oldField f25_q_nodeField
  have f26_q_nodeParent : h26 q_nodeParent = some ((29, 1), .inl (g.2.1 1, 2000, .inl (fun _ => 0))) := by rw [← hh26]; exact z_keepN n_q_oldField f25_q_nodeParent
  have f26_q_nodeFrom : h26 q_nodeFrom = some ((29, 2), .inl (g.2.1 1, 2000, .inl (fun _ => 0))) := by rw [← hh26]; exact z_keepN n_q_oldField f25_q_nodeFrom
  have f26_q_nodeSize : h26 q_nodeSize = some ((29, 3), .inl (g.2.1 1, 2000, .inl (fun _ => 0))) := by rw [← hh26]; exact z_keepN n_q_oldField f25_q_nodeSize
  have f26_q_nodeValue : h26 q_nodeValue = some ((30, 0), .inl (g.2.1 2, 2000, .inr (.inl (fun _ => 0)))) := by rw [← hh26]; exact z_keepN n_q_oldField f25_q_nodeValue
  have f26_q_texts : h26 q_texts = some ((31, 0), .inl (g.2.1 1, 16000, .inl (fun _ => 0))) := by rw [← hh26]; exact z_keepN n_q_oldField f25_q_texts
  have f26_q_oldField : h26 q_oldField = some ((32, 0), .inl (g.2.1 1, 2000, .inl (fun _ => 0))) := by rw [← hh26]; exact z_put_eq
  have kk26 : z_K (fun y => 20 ≤ y ∧ y < 40) h h26 := kk25.tr (by rw [← hh26]; exact z_K.new n_q_oldField)
  have sg_rowsh26 : z_K (fun y => y = 20 ∨ y = 29) h5 h26 := sg_rowsh25.tr (by rw [← hh26]; exact z_K.new n_q_oldField)
  have sg_freshh26 : z_K (fun y => y = 20 ∨ y = 29) h7 h26 := sg_freshh25.tr (by rw [← hh26]; exact z_K.new n_q_oldField)
  refine z_putF (ty := .array .int) hx hb hts (z_lay i_M) t_M t_M_ok n_M hown hK hw f26_mo rfl 21 (by decide) (z_in k_792 rfl) (fun _ h9 => h9) rfl hnm rfl (by decide +kernel) rfl rfl (Nat.le_of_ble_eq_true rfl) d_M_init_131 (fun H locs hw => ?_)
  obtain ⟨h27, hh27⟩ : ∃ x9, z_put h26 mo (20, 0) (.inr (11, [.int 0, .ref q_tape, .ref q_text, .int 0, .int 0, .ref q_rows, .ref q_fresh, .ref q_letters, .ref q_freshLetters, .int 0, .int 0, .int 0, .int 0, .ref q_nodeField, .ref q_nodeParent, .ref q_nodeFrom, .ref q_nodeSize, .ref q_nodeValue, .int 1, .int 0, .ref q_texts, .ref q_oldField, .null, .null, .null, .null, .null, .null, .int 0, .int 0, .int 0])) = x9 := ⟨_, rfl⟩
  have hw : z_S g A s.heap h27 H locs := by rw [← hh27]; exact hw
  have f27_mo : h27 mo = some ((20, 0), .inr (11, [.int 0, .ref q_tape, .ref q_text, .int 0, .int 0, .ref q_rows, .ref q_fresh, .ref q_letters, .ref q_freshLetters, .int 0, .int 0, .int 0, .int 0, .ref q_nodeField, .ref q_nodeParent, .ref q_nodeFrom, .ref q_nodeSize, .ref q_nodeValue, .int 1, .int 0, .ref q_texts, .ref q_oldField, .null, .null, .null, .null, .null, .null, .int 0, .int 0, .int 0])) := by rw [← hh27]; exact z_put_eq
  have f27_q_tape : h27 q_tape = some ((21, 0), .inl (g.2.1 1, 4000, .inl (fun _ => 0))) := by rw [← hh27]; exact (z_put_ne (Ne.symm ne_mo_q_tape)).trans f26_q_tape
  have f27_q_text : h27 q_text = some ((22, 0), .inl (g.2.1 1, 4000, .inl (fun _ => 0))) := by rw [← hh27]; exact (z_put_ne (Ne.symm ne_mo_q_text)).trans f26_q_text
  have f27_q_letters : h27 q_letters = some ((27, 0), .inl (g.2.1 1, 2048, .inl (fun _ => 0))) := by rw [← hh27]; exact (z_put_ne (Ne.symm ne_mo_q_letters)).trans f26_q_letters
  have f27_q_freshLetters : h27 q_freshLetters = some ((28, 0), .inl (g.2.1 1, 2048, .inl (fun _ => 0))) := by rw [← hh27]; exact (z_put_ne (Ne.symm ne_mo_q_freshLetters)).trans f26_q_freshLetters
  have f27_q_nodeField : h27 q_nodeField = some ((29, 0), .inl (g.2.1 1, 2000, .inl (fun _ => 0))) := by rw [← hh27]; exact (z_put_ne (Ne.symm ne_mo_q_nodeField)).trans f26_q_nodeField
  have f27_q_nodeParent : h27 q_nodeParent = some ((29, 1), .inl (g.2.1 1, 2000, .inl (fun _ => 0))) := by rw [← hh27]; exact (z_put_ne (Ne.symm ne_mo_q_nodeParent)).trans f26_q_nodeParent
  have f27_q_nodeFrom : h27 q_nodeFrom = some ((29, 2), .inl (g.2.1 1, 2000, .inl (fun _ => 0))) := by rw [← hh27]; exact (z_put_ne (Ne.symm ne_mo_q_nodeFrom)).trans f26_q_nodeFrom
  have f27_q_nodeSize : h27 q_nodeSize = some ((29, 3), .inl (g.2.1 1, 2000, .inl (fun _ => 0))) := by rw [← hh27]; exact (z_put_ne (Ne.symm ne_mo_q_nodeSize)).trans f26_q_nodeSize
  have f27_q_nodeValue : h27 q_nodeValue = some ((30, 0), .inl (g.2.1 2, 2000, .inr (.inl (fun _ => 0)))) := by rw [← hh27]; exact (z_put_ne (Ne.symm ne_mo_q_nodeValue)).trans f26_q_nodeValue
  have f27_q_texts : h27 q_texts = some ((31, 0), .inl (g.2.1 1, 16000, .inl (fun _ => 0))) := by rw [← hh27]; exact (z_put_ne (Ne.symm ne_mo_q_texts)).trans f26_q_texts
  have f27_q_oldField : h27 q_oldField = some ((32, 0), .inl (g.2.1 1, 2000, .inl (fun _ => 0))) := by rw [← hh27]; exact (z_put_ne (Ne.symm ne_mo_q_oldField)).trans f26_q_oldField
  have kk27 : z_K (fun y => 20 ≤ y ∧ y < 40) h h27 := kk26.tr (by rw [← hh27]; exact z_K.put f26_mo (by first | decide | simp | omega))
  have sg_rowsh27 : z_K (fun y => y = 20 ∨ y = 29) h5 h27 := sg_rowsh26.tr (by rw [← hh27]; exact z_K.put f26_mo (by simp))
  have sg_freshh27 : z_K (fun y => y = 20 ∨ y = 29) h7 h27 := sg_freshh26.tr (by rw [← hh27]; exact z_K.put f26_mo (by simp))
  refine lv_aload_n hx hb d_M_init_134 rfl (lv_at hl 0 rfl) ?_
  refine lv_sipush (v := 2000) hx hb d_M_init_135 (by decide) ?_
  refine z_newa (atype := .int) (N' := 2000) (a0 := (2000, .inl (fun _ => 0))) hx hb hts (z_in k_82 rfl) hK hw hA 1 rfl rfl (fun C z => by cases z) (fun cA => rfl) (by decide) (by rfl) (by show _ ≤ _; simp [componentBytes]; try omega) (by first | exact Nat.le_of_ble_eq_true rfl | (dsimp only; omega) | omega) (by first | exact Nat.le_of_ble_eq_true rfl | (dsimp only; omega) | omega) d_M_init_138 (32, 1) (fun q_oldParent H n_q_oldParent hw => ?_)
  obtain ⟨h28, hh28⟩ : ∃ x9, z_put h27 q_oldParent (32, 1) (.inl (g.2.1 1, 2000, .inl (fun _ => 0))) = x9 := ⟨_, rfl⟩
  have hw : z_S g A s.heap h28 H locs := by rw [← hh28]; exact hw
  have ne_mo_q_oldParent : z_NE mo q_oldParent := (show mo ≠ q_oldParent from fun z => by have z2 := f27_mo; rw [z, n_q_oldParent] at z2; cases z2)
  have ne_q_tape_q_oldParent : z_NE q_tape q_oldParent := (show q_tape ≠ q_oldParent from fun z => by have z2 := f27_q_tape; rw [z, n_q_oldParent] at z2; cases z2)
  have ne_q_text_q_oldParent : z_NE q_text q_oldParent := (show q_text ≠ q_oldParent from fun z => by have z2 := f27_q_text; rw [z, n_q_oldParent] at z2; cases z2)
  have ne_q_letters_q_oldParent : z_NE q_letters q_oldParent := (show q_letters ≠ q_oldParent from fun z => by have z2 := f27_q_letters; rw [z, n_q_oldParent] at z2; cases z2)
  have ne_q_freshLetters_q_oldParent : z_NE q_freshLetters q_oldParent := (show q_freshLetters ≠ q_oldParent from fun z => by have z2 := f27_q_freshLetters; rw [z, n_q_oldParent] at z2; cases z2)
  have ne_q_nodeField_q_oldParent : z_NE q_nodeField q_oldParent := (show q_nodeField ≠ q_oldParent from fun z => by have z2 := f27_q_nodeField; rw [z, n_q_oldParent] at z2; cases z2)
  have ne_q_nodeParent_q_oldParent : z_NE q_nodeParent q_oldParent := (show q_nodeParent ≠ q_oldParent from fun z => by have z2 := f27_q_nodeParent; rw [z, n_q_oldParent] at z2; cases z2)
  have ne_q_nodeFrom_q_oldParent : z_NE q_nodeFrom q_oldParent := (show q_nodeFrom ≠ q_oldParent from fun z => by have z2 := f27_q_nodeFrom; rw [z, n_q_oldParent] at z2; cases z2)
  have ne_q_nodeSize_q_oldParent : z_NE q_nodeSize q_oldParent := (show q_nodeSize ≠ q_oldParent from fun z => by have z2 := f27_q_nodeSize; rw [z, n_q_oldParent] at z2; cases z2)
  have ne_q_nodeValue_q_oldParent : z_NE q_nodeValue q_oldParent := (show q_nodeValue ≠ q_oldParent from fun z => by have z2 := f27_q_nodeValue; rw [z, n_q_oldParent] at z2; cases z2)
  have ne_q_texts_q_oldParent : z_NE q_texts q_oldParent := (show q_texts ≠ q_oldParent from fun z => by have z2 := f27_q_texts; rw [z, n_q_oldParent] at z2; cases z2)
  have ne_q_oldField_q_oldParent : z_NE q_oldField q_oldParent := (show q_oldField ≠ q_oldParent from fun z => by have z2 := f27_q_oldField; rw [z, n_q_oldParent] at z2; cases z2)
  have f28_mo : h28 mo = some ((20, 0), .inr (11, [.int 0, .ref q_tape, .ref q_text, .int 0, .int 0, .ref q_rows, .ref q_fresh, .ref q_letters, .ref q_freshLetters, .int 0, .int 0, .int 0, .int 0, .ref q_nodeField, .ref q_nodeParent, .ref q_nodeFrom, .ref q_nodeSize, .ref q_nodeValue, .int 1, .int 0, .ref q_texts, .ref q_oldField, .null, .null, .null, .null, .null, .null, .int 0, .int 0, .int 0])) := by rw [← hh28]; exact z_keepN n_q_oldParent f27_mo
  have f28_q_tape : h28 q_tape = some ((21, 0), .inl (g.2.1 1, 4000, .inl (fun _ => 0))) := by rw [← hh28]; exact z_keepN n_q_oldParent f27_q_tape
  have f28_q_text : h28 q_text = some ((22, 0), .inl (g.2.1 1, 4000, .inl (fun _ => 0))) := by rw [← hh28]; exact z_keepN n_q_oldParent f27_q_text
  have f28_q_letters : h28 q_letters = some ((27, 0), .inl (g.2.1 1, 2048, .inl (fun _ => 0))) := by rw [← hh28]; exact z_keepN n_q_oldParent f27_q_letters
  have f28_q_freshLetters : h28 q_freshLetters = some ((28, 0), .inl (g.2.1 1, 2048, .inl (fun _ => 0))) := by rw [← hh28]; exact z_keepN n_q_oldParent f27_q_freshLetters
  have f28_q_nodeField : h28 q_nodeField = some ((29, 0), .inl (g.2.1 1, 2000, .inl (fun _ => 0))) := by rw [← hh28]; exact z_keepN n_q_oldParent f27_q_nodeField
  have f28_q_nodeParent : h28 q_nodeParent = some ((29, 1), .inl (g.2.1 1, 2000, .inl (fun _ => 0))) := by rw [← hh28]; exact z_keepN n_q_oldParent f27_q_nodeParent
  have f28_q_nodeFrom : h28 q_nodeFrom = some ((29, 2), .inl (g.2.1 1, 2000, .inl (fun _ => 0))) := by rw [← hh28]; exact z_keepN n_q_oldParent f27_q_nodeFrom
  have f28_q_nodeSize : h28 q_nodeSize = some ((29, 3), .inl (g.2.1 1, 2000, .inl (fun _ => 0))) := by rw [← hh28]; exact z_keepN n_q_oldParent f27_q_nodeSize
  have f28_q_nodeValue : h28 q_nodeValue = some ((30, 0), .inl (g.2.1 2, 2000, .inr (.inl (fun _ => 0)))) := by rw [← hh28]; exact z_keepN n_q_oldParent f27_q_nodeValue
  have f28_q_texts : h28 q_texts = some ((31, 0), .inl (g.2.1 1, 16000, .inl (fun _ => 0))) := by rw [← hh28]; exact z_keepN n_q_oldParent f27_q_texts
  have f28_q_oldField : h28 q_oldField = some ((32, 0), .inl (g.2.1 1, 2000, .inl (fun _ => 0))) := by rw [← hh28]; exact z_keepN n_q_oldParent f27_q_oldField
  have f28_q_oldParent : h28 q_oldParent = some ((32, 1), .inl (g.2.1 1, 2000, .inl (fun _ => 0))) := by rw [← hh28]; exact z_put_eq
  have kk28 : z_K (fun y => 20 ≤ y ∧ y < 40) h h28 := kk27.tr (by rw [← hh28]; exact z_K.new n_q_oldParent)
  have sg_rowsh28 : z_K (fun y => y = 20 ∨ y = 29) h5 h28 := sg_rowsh27.tr (by rw [← hh28]; exact z_K.new n_q_oldParent)
  have sg_freshh28 : z_K (fun y => y = 20 ∨ y = 29) h7 h28 := sg_freshh27.tr (by rw [← hh28]; exact z_K.new n_q_oldParent)
  refine z_putF (ty := .array .int) hx hb hts (z_lay i_M) t_M t_M_ok n_M hown hK hw f28_mo rfl 22 (by decide) (z_in k_793 rfl) (fun _ h9 => h9) rfl hnm rfl (by decide +kernel) rfl rfl (Nat.le_of_ble_eq_true rfl) d_M_init_140 (fun H locs hw => ?_)
  obtain ⟨h29, hh29⟩ : ∃ x9, z_put h28 mo (20, 0) (.inr (11, [.int 0, .ref q_tape, .ref q_text, .int 0, .int 0, .ref q_rows, .ref q_fresh, .ref q_letters, .ref q_freshLetters, .int 0, .int 0, .int 0, .int 0, .ref q_nodeField, .ref q_nodeParent, .ref q_nodeFrom, .ref q_nodeSize, .ref q_nodeValue, .int 1, .int 0, .ref q_texts, .ref q_oldField, .ref q_oldParent, .null, .null, .null, .null, .null, .int 0, .int 0, .int 0])) = x9 := ⟨_, rfl⟩
  have hw : z_S g A s.heap h29 H locs := by rw [← hh29]; exact hw
  have f29_mo : h29 mo = some ((20, 0), .inr (11, [.int 0, .ref q_tape, .ref q_text, .int 0, .int 0, .ref q_rows, .ref q_fresh, .ref q_letters, .ref q_freshLetters, .int 0, .int 0, .int 0, .int 0, .ref q_nodeField, .ref q_nodeParent, .ref q_nodeFrom, .ref q_nodeSize, .ref q_nodeValue, .int 1, .int 0, .ref q_texts, .ref q_oldField, .ref q_oldParent, .null, .null, .null, .null, .null, .int 0, .int 0, .int 0])) := by rw [← hh29]; exact z_put_eq
  have f29_q_tape : h29 q_tape = some ((21, 0), .inl (g.2.1 1, 4000, .inl (fun _ => 0))) := by rw [← hh29]; exact (z_put_ne (Ne.symm ne_mo_q_tape)).trans f28_q_tape
  have f29_q_text : h29 q_text = some ((22, 0), .inl (g.2.1 1, 4000, .inl (fun _ => 0))) := by rw [← hh29]; exact (z_put_ne (Ne.symm ne_mo_q_text)).trans f28_q_text
  have f29_q_letters : h29 q_letters = some ((27, 0), .inl (g.2.1 1, 2048, .inl (fun _ => 0))) := by rw [← hh29]; exact (z_put_ne (Ne.symm ne_mo_q_letters)).trans f28_q_letters
  have f29_q_freshLetters : h29 q_freshLetters = some ((28, 0), .inl (g.2.1 1, 2048, .inl (fun _ => 0))) := by rw [← hh29]; exact (z_put_ne (Ne.symm ne_mo_q_freshLetters)).trans f28_q_freshLetters
  have f29_q_nodeField : h29 q_nodeField = some ((29, 0), .inl (g.2.1 1, 2000, .inl (fun _ => 0))) := by rw [← hh29]; exact (z_put_ne (Ne.symm ne_mo_q_nodeField)).trans f28_q_nodeField
  have f29_q_nodeParent : h29 q_nodeParent = some ((29, 1), .inl (g.2.1 1, 2000, .inl (fun _ => 0))) := by rw [← hh29]; exact (z_put_ne (Ne.symm ne_mo_q_nodeParent)).trans f28_q_nodeParent
  have f29_q_nodeFrom : h29 q_nodeFrom = some ((29, 2), .inl (g.2.1 1, 2000, .inl (fun _ => 0))) := by rw [← hh29]; exact (z_put_ne (Ne.symm ne_mo_q_nodeFrom)).trans f28_q_nodeFrom
  have f29_q_nodeSize : h29 q_nodeSize = some ((29, 3), .inl (g.2.1 1, 2000, .inl (fun _ => 0))) := by rw [← hh29]; exact (z_put_ne (Ne.symm ne_mo_q_nodeSize)).trans f28_q_nodeSize
  have f29_q_nodeValue : h29 q_nodeValue = some ((30, 0), .inl (g.2.1 2, 2000, .inr (.inl (fun _ => 0)))) := by rw [← hh29]; exact (z_put_ne (Ne.symm ne_mo_q_nodeValue)).trans f28_q_nodeValue
  have f29_q_texts : h29 q_texts = some ((31, 0), .inl (g.2.1 1, 16000, .inl (fun _ => 0))) := by rw [← hh29]; exact (z_put_ne (Ne.symm ne_mo_q_texts)).trans f28_q_texts
  have f29_q_oldField : h29 q_oldField = some ((32, 0), .inl (g.2.1 1, 2000, .inl (fun _ => 0))) := by rw [← hh29]; exact (z_put_ne (Ne.symm ne_mo_q_oldField)).trans f28_q_oldField
  have f29_q_oldParent : h29 q_oldParent = some ((32, 1), .inl (g.2.1 1, 2000, .inl (fun _ => 0))) := by rw [← hh29]; exact (z_put_ne (Ne.symm ne_mo_q_oldParent)).trans f28_q_oldParent
  have kk29 : z_K (fun y => 20 ≤ y ∧ y < 40) h h29 := kk28.tr (by rw [← hh29]; exact z_K.put f28_mo (by first | decide | simp | omega))
  have sg_rowsh29 : z_K (fun y => y = 20 ∨ y = 29) h5 h29 := sg_rowsh28.tr (by rw [← hh29]; exact z_K.put f28_mo (by simp))
  have sg_freshh29 : z_K (fun y => y = 20 ∨ y = 29) h7 h29 := sg_freshh28.tr (by rw [← hh29]; exact z_K.put f28_mo (by simp))
  refine lv_aload_n hx hb d_M_init_143 rfl (lv_at hl 0 rfl) ?_
  refine lv_sipush (v := 2000) hx hb d_M_init_144 (by decide) ?_
  refine z_newa (atype := .int) (N' := 2000) (a0 := (2000, .inl (fun _ => 0))) hx hb hts (z_in k_82 rfl) hK hw hA 1 rfl rfl (fun C z => by cases z) (fun cA => rfl) (by decide) (by rfl) (by show _ ≤ _; simp [componentBytes]; try omega) (by first | exact Nat.le_of_ble_eq_true rfl | (dsimp only; omega) | omega) (by first | exact Nat.le_of_ble_eq_true rfl | (dsimp only; omega) | omega) d_M_init_147 (32, 2) (fun q_oldFrom H n_q_oldFrom hw => ?_)
  obtain ⟨h30, hh30⟩ : ∃ x9, z_put h29 q_oldFrom (32, 2) (.inl (g.2.1 1, 2000, .inl (fun _ => 0))) = x9 := ⟨_, rfl⟩
  have hw : z_S g A s.heap h30 H locs := by rw [← hh30]; exact hw
  have ne_mo_q_oldFrom : z_NE mo q_oldFrom := (show mo ≠ q_oldFrom from fun z => by have z2 := f29_mo; rw [z, n_q_oldFrom] at z2; cases z2)
  have ne_q_tape_q_oldFrom : z_NE q_tape q_oldFrom := (show q_tape ≠ q_oldFrom from fun z => by have z2 := f29_q_tape; rw [z, n_q_oldFrom] at z2; cases z2)
  have ne_q_text_q_oldFrom : z_NE q_text q_oldFrom := (show q_text ≠ q_oldFrom from fun z => by have z2 := f29_q_text; rw [z, n_q_oldFrom] at z2; cases z2)
  have ne_q_letters_q_oldFrom : z_NE q_letters q_oldFrom := (show q_letters ≠ q_oldFrom from fun z => by have z2 := f29_q_letters; rw [z, n_q_oldFrom] at z2; cases z2)
  have ne_q_freshLetters_q_oldFrom : z_NE q_freshLetters q_oldFrom := (show q_freshLetters ≠ q_oldFrom from fun z => by have z2 := f29_q_freshLetters; rw [z, n_q_oldFrom] at z2; cases z2)
  have ne_q_nodeField_q_oldFrom : z_NE q_nodeField q_oldFrom := (show q_nodeField ≠ q_oldFrom from fun z => by have z2 := f29_q_nodeField; rw [z, n_q_oldFrom] at z2; cases z2)
  have ne_q_nodeParent_q_oldFrom : z_NE q_nodeParent q_oldFrom := (show q_nodeParent ≠ q_oldFrom from fun z => by have z2 := f29_q_nodeParent; rw [z, n_q_oldFrom] at z2; cases z2)
  have ne_q_nodeFrom_q_oldFrom : z_NE q_nodeFrom q_oldFrom := (show q_nodeFrom ≠ q_oldFrom from fun z => by have z2 := f29_q_nodeFrom; rw [z, n_q_oldFrom] at z2; cases z2)
  have ne_q_nodeSize_q_oldFrom : z_NE q_nodeSize q_oldFrom := (show q_nodeSize ≠ q_oldFrom from fun z => by have z2 := f29_q_nodeSize; rw [z, n_q_oldFrom] at z2; cases z2)
  have ne_q_nodeValue_q_oldFrom : z_NE q_nodeValue q_oldFrom := (show q_nodeValue ≠ q_oldFrom from fun z => by have z2 := f29_q_nodeValue; rw [z, n_q_oldFrom] at z2; cases z2)
  have ne_q_texts_q_oldFrom : z_NE q_texts q_oldFrom := (show q_texts ≠ q_oldFrom from fun z => by have z2 := f29_q_texts; rw [z, n_q_oldFrom] at z2; cases z2)
  have ne_q_oldField_q_oldFrom : z_NE q_oldField q_oldFrom := (show q_oldField ≠ q_oldFrom from fun z => by have z2 := f29_q_oldField; rw [z, n_q_oldFrom] at z2; cases z2)
  have ne_q_oldParent_q_oldFrom : z_NE q_oldParent q_oldFrom := (show q_oldParent ≠ q_oldFrom from fun z => by have z2 := f29_q_oldParent; rw [z, n_q_oldFrom] at z2; cases z2)
  have f30_mo : h30 mo = some ((20, 0), .inr (11, [.int 0, .ref q_tape, .ref q_text, .int 0, .int 0, .ref q_rows, .ref q_fresh, .ref q_letters, .ref q_freshLetters, .int 0, .int 0, .int 0, .int 0, .ref q_nodeField, .ref q_nodeParent, .ref q_nodeFrom, .ref q_nodeSize, .ref q_nodeValue, .int 1, .int 0, .ref q_texts, .ref q_oldField, .ref q_oldParent, .null, .null, .null, .null, .null, .int 0, .int 0, .int 0])) := by rw [← hh30]; exact z_keepN n_q_oldFrom f29_mo
  have f30_q_tape : h30 q_tape = some ((21, 0), .inl (g.2.1 1, 4000, .inl (fun _ => 0))) := by rw [← hh30]; exact z_keepN n_q_oldFrom f29_q_tape
  have f30_q_text : h30 q_text = some ((22, 0), .inl (g.2.1 1, 4000, .inl (fun _ => 0))) := by rw [← hh30]; exact z_keepN n_q_oldFrom f29_q_text
  have f30_q_letters : h30 q_letters = some ((27, 0), .inl (g.2.1 1, 2048, .inl (fun _ => 0))) := by rw [← hh30]; exact z_keepN n_q_oldFrom f29_q_letters
  have f30_q_freshLetters : h30 q_freshLetters = some ((28, 0), .inl (g.2.1 1, 2048, .inl (fun _ => 0))) := by rw [← hh30]; exact z_keepN n_q_oldFrom f29_q_freshLetters
  have f30_q_nodeField : h30 q_nodeField = some ((29, 0), .inl (g.2.1 1, 2000, .inl (fun _ => 0))) := by rw [← hh30]; exact z_keepN n_q_oldFrom f29_q_nodeField
  have f30_q_nodeParent : h30 q_nodeParent = some ((29, 1), .inl (g.2.1 1, 2000, .inl (fun _ => 0))) := by rw [← hh30]; exact z_keepN n_q_oldFrom f29_q_nodeParent
  have f30_q_nodeFrom : h30 q_nodeFrom = some ((29, 2), .inl (g.2.1 1, 2000, .inl (fun _ => 0))) := by rw [← hh30]; exact z_keepN n_q_oldFrom f29_q_nodeFrom
  have f30_q_nodeSize : h30 q_nodeSize = some ((29, 3), .inl (g.2.1 1, 2000, .inl (fun _ => 0))) := by rw [← hh30]; exact z_keepN n_q_oldFrom f29_q_nodeSize
  have f30_q_nodeValue : h30 q_nodeValue = some ((30, 0), .inl (g.2.1 2, 2000, .inr (.inl (fun _ => 0)))) := by rw [← hh30]; exact z_keepN n_q_oldFrom f29_q_nodeValue
  have f30_q_texts : h30 q_texts = some ((31, 0), .inl (g.2.1 1, 16000, .inl (fun _ => 0))) := by rw [← hh30]; exact z_keepN n_q_oldFrom f29_q_texts
  have f30_q_oldField : h30 q_oldField = some ((32, 0), .inl (g.2.1 1, 2000, .inl (fun _ => 0))) := by rw [← hh30]; exact z_keepN n_q_oldFrom f29_q_oldField
  have f30_q_oldParent : h30 q_oldParent = some ((32, 1), .inl (g.2.1 1, 2000, .inl (fun _ => 0))) := by rw [← hh30]; exact z_keepN n_q_oldFrom f29_q_oldParent
  have f30_q_oldFrom : h30 q_oldFrom = some ((32, 2), .inl (g.2.1 1, 2000, .inl (fun _ => 0))) := by rw [← hh30]; exact z_put_eq
  have kk30 : z_K (fun y => 20 ≤ y ∧ y < 40) h h30 := kk29.tr (by rw [← hh30]; exact z_K.new n_q_oldFrom)
  have sg_rowsh30 : z_K (fun y => y = 20 ∨ y = 29) h5 h30 := sg_rowsh29.tr (by rw [← hh30]; exact z_K.new n_q_oldFrom)
  have sg_freshh30 : z_K (fun y => y = 20 ∨ y = 29) h7 h30 := sg_freshh29.tr (by rw [← hh30]; exact z_K.new n_q_oldFrom)
  refine z_putF (ty := .array .int) hx hb hts (z_lay i_M) t_M t_M_ok n_M hown hK hw f30_mo rfl 23 (by decide) (z_in k_794 rfl) (fun _ h9 => h9) rfl hnm rfl (by decide +kernel) rfl rfl (Nat.le_of_ble_eq_true rfl) d_M_init_149 (fun H locs hw => ?_)
  obtain ⟨h31, hh31⟩ : ∃ x9, z_put h30 mo (20, 0) (.inr (11, [.int 0, .ref q_tape, .ref q_text, .int 0, .int 0, .ref q_rows, .ref q_fresh, .ref q_letters, .ref q_freshLetters, .int 0, .int 0, .int 0, .int 0, .ref q_nodeField, .ref q_nodeParent, .ref q_nodeFrom, .ref q_nodeSize, .ref q_nodeValue, .int 1, .int 0, .ref q_texts, .ref q_oldField, .ref q_oldParent, .ref q_oldFrom, .null, .null, .null, .null, .int 0, .int 0, .int 0])) = x9 := ⟨_, rfl⟩
  have hw : z_S g A s.heap h31 H locs := by rw [← hh31]; exact hw
  have f31_mo : h31 mo = some ((20, 0), .inr (11, [.int 0, .ref q_tape, .ref q_text, .int 0, .int 0, .ref q_rows, .ref q_fresh, .ref q_letters, .ref q_freshLetters, .int 0, .int 0, .int 0, .int 0, .ref q_nodeField, .ref q_nodeParent, .ref q_nodeFrom, .ref q_nodeSize, .ref q_nodeValue, .int 1, .int 0, .ref q_texts, .ref q_oldField, .ref q_oldParent, .ref q_oldFrom, .null, .null, .null, .null, .int 0, .int 0, .int 0])) := by rw [← hh31]; exact z_put_eq
  have f31_q_tape : h31 q_tape = some ((21, 0), .inl (g.2.1 1, 4000, .inl (fun _ => 0))) := by rw [← hh31]; exact (z_put_ne (Ne.symm ne_mo_q_tape)).trans f30_q_tape
  have f31_q_text : h31 q_text = some ((22, 0), .inl (g.2.1 1, 4000, .inl (fun _ => 0))) := by rw [← hh31]; exact (z_put_ne (Ne.symm ne_mo_q_text)).trans f30_q_text
  have f31_q_letters : h31 q_letters = some ((27, 0), .inl (g.2.1 1, 2048, .inl (fun _ => 0))) := by rw [← hh31]; exact (z_put_ne (Ne.symm ne_mo_q_letters)).trans f30_q_letters
  have f31_q_freshLetters : h31 q_freshLetters = some ((28, 0), .inl (g.2.1 1, 2048, .inl (fun _ => 0))) := by rw [← hh31]; exact (z_put_ne (Ne.symm ne_mo_q_freshLetters)).trans f30_q_freshLetters
  have f31_q_nodeField : h31 q_nodeField = some ((29, 0), .inl (g.2.1 1, 2000, .inl (fun _ => 0))) := by rw [← hh31]; exact (z_put_ne (Ne.symm ne_mo_q_nodeField)).trans f30_q_nodeField
  have f31_q_nodeParent : h31 q_nodeParent = some ((29, 1), .inl (g.2.1 1, 2000, .inl (fun _ => 0))) := by rw [← hh31]; exact (z_put_ne (Ne.symm ne_mo_q_nodeParent)).trans f30_q_nodeParent
  have f31_q_nodeFrom : h31 q_nodeFrom = some ((29, 2), .inl (g.2.1 1, 2000, .inl (fun _ => 0))) := by rw [← hh31]; exact (z_put_ne (Ne.symm ne_mo_q_nodeFrom)).trans f30_q_nodeFrom
  have f31_q_nodeSize : h31 q_nodeSize = some ((29, 3), .inl (g.2.1 1, 2000, .inl (fun _ => 0))) := by rw [← hh31]; exact (z_put_ne (Ne.symm ne_mo_q_nodeSize)).trans f30_q_nodeSize
  have f31_q_nodeValue : h31 q_nodeValue = some ((30, 0), .inl (g.2.1 2, 2000, .inr (.inl (fun _ => 0)))) := by rw [← hh31]; exact (z_put_ne (Ne.symm ne_mo_q_nodeValue)).trans f30_q_nodeValue
  have f31_q_texts : h31 q_texts = some ((31, 0), .inl (g.2.1 1, 16000, .inl (fun _ => 0))) := by rw [← hh31]; exact (z_put_ne (Ne.symm ne_mo_q_texts)).trans f30_q_texts
  have f31_q_oldField : h31 q_oldField = some ((32, 0), .inl (g.2.1 1, 2000, .inl (fun _ => 0))) := by rw [← hh31]; exact (z_put_ne (Ne.symm ne_mo_q_oldField)).trans f30_q_oldField
  have f31_q_oldParent : h31 q_oldParent = some ((32, 1), .inl (g.2.1 1, 2000, .inl (fun _ => 0))) := by rw [← hh31]; exact (z_put_ne (Ne.symm ne_mo_q_oldParent)).trans f30_q_oldParent
  have f31_q_oldFrom : h31 q_oldFrom = some ((32, 2), .inl (g.2.1 1, 2000, .inl (fun _ => 0))) := by rw [← hh31]; exact (z_put_ne (Ne.symm ne_mo_q_oldFrom)).trans f30_q_oldFrom
  have kk31 : z_K (fun y => 20 ≤ y ∧ y < 40) h h31 := kk30.tr (by rw [← hh31]; exact z_K.put f30_mo (by first | decide | simp | omega))
  have sg_rowsh31 : z_K (fun y => y = 20 ∨ y = 29) h5 h31 := sg_rowsh30.tr (by rw [← hh31]; exact z_K.put f30_mo (by simp))
  have sg_freshh31 : z_K (fun y => y = 20 ∨ y = 29) h7 h31 := sg_freshh30.tr (by rw [← hh31]; exact z_K.put f30_mo (by simp))
  refine lv_aload_n hx hb d_M_init_152 rfl (lv_at hl 0 rfl) ?_
  refine lv_sipush (v := 2000) hx hb d_M_init_153 (by decide) ?_
  refine z_newa (atype := .int) (N' := 2000) (a0 := (2000, .inl (fun _ => 0))) hx hb hts (z_in k_82 rfl) hK hw hA 1 rfl rfl (fun C z => by cases z) (fun cA => rfl) (by decide) (by rfl) (by show _ ≤ _; simp [componentBytes]; try omega) (by first | exact Nat.le_of_ble_eq_true rfl | (dsimp only; omega) | omega) (by first | exact Nat.le_of_ble_eq_true rfl | (dsimp only; omega) | omega) d_M_init_156 (32, 3) (fun q_oldSize H n_q_oldSize hw => ?_)
  obtain ⟨h32, hh32⟩ : ∃ x9, z_put h31 q_oldSize (32, 3) (.inl (g.2.1 1, 2000, .inl (fun _ => 0))) = x9 := ⟨_, rfl⟩
  have hw : z_S g A s.heap h32 H locs := by rw [← hh32]; exact hw
  have ne_mo_q_oldSize : z_NE mo q_oldSize := (show mo ≠ q_oldSize from fun z => by have z2 := f31_mo; rw [z, n_q_oldSize] at z2; cases z2)
  have ne_q_tape_q_oldSize : z_NE q_tape q_oldSize := (show q_tape ≠ q_oldSize from fun z => by have z2 := f31_q_tape; rw [z, n_q_oldSize] at z2; cases z2)
  have ne_q_text_q_oldSize : z_NE q_text q_oldSize := (show q_text ≠ q_oldSize from fun z => by have z2 := f31_q_text; rw [z, n_q_oldSize] at z2; cases z2)
  have ne_q_letters_q_oldSize : z_NE q_letters q_oldSize := (show q_letters ≠ q_oldSize from fun z => by have z2 := f31_q_letters; rw [z, n_q_oldSize] at z2; cases z2)
  have ne_q_freshLetters_q_oldSize : z_NE q_freshLetters q_oldSize := (show q_freshLetters ≠ q_oldSize from fun z => by have z2 := f31_q_freshLetters; rw [z, n_q_oldSize] at z2; cases z2)
  have ne_q_nodeField_q_oldSize : z_NE q_nodeField q_oldSize := (show q_nodeField ≠ q_oldSize from fun z => by have z2 := f31_q_nodeField; rw [z, n_q_oldSize] at z2; cases z2)
  have ne_q_nodeParent_q_oldSize : z_NE q_nodeParent q_oldSize := (show q_nodeParent ≠ q_oldSize from fun z => by have z2 := f31_q_nodeParent; rw [z, n_q_oldSize] at z2; cases z2)
  have ne_q_nodeFrom_q_oldSize : z_NE q_nodeFrom q_oldSize := (show q_nodeFrom ≠ q_oldSize from fun z => by have z2 := f31_q_nodeFrom; rw [z, n_q_oldSize] at z2; cases z2)
  have ne_q_nodeSize_q_oldSize : z_NE q_nodeSize q_oldSize := (show q_nodeSize ≠ q_oldSize from fun z => by have z2 := f31_q_nodeSize; rw [z, n_q_oldSize] at z2; cases z2)
  have ne_q_nodeValue_q_oldSize : z_NE q_nodeValue q_oldSize := (show q_nodeValue ≠ q_oldSize from fun z => by have z2 := f31_q_nodeValue; rw [z, n_q_oldSize] at z2; cases z2)
  have ne_q_texts_q_oldSize : z_NE q_texts q_oldSize := (show q_texts ≠ q_oldSize from fun z => by have z2 := f31_q_texts; rw [z, n_q_oldSize] at z2; cases z2)
  have ne_q_oldField_q_oldSize : z_NE q_oldField q_oldSize := (show q_oldField ≠ q_oldSize from fun z => by have z2 := f31_q_oldField; rw [z, n_q_oldSize] at z2; cases z2)
  have ne_q_oldParent_q_oldSize : z_NE q_oldParent q_oldSize := (show q_oldParent ≠ q_oldSize from fun z => by have z2 := f31_q_oldParent; rw [z, n_q_oldSize] at z2; cases z2)
  have ne_q_oldFrom_q_oldSize : z_NE q_oldFrom q_oldSize := (show q_oldFrom ≠ q_oldSize from fun z => by have z2 := f31_q_oldFrom; rw [z, n_q_oldSize] at z2; cases z2)
  have f32_mo : h32 mo = some ((20, 0), .inr (11, [.int 0, .ref q_tape, .ref q_text, .int 0, .int 0, .ref q_rows, .ref q_fresh, .ref q_letters, .ref q_freshLetters, .int 0, .int 0, .int 0, .int 0, .ref q_nodeField, .ref q_nodeParent, .ref q_nodeFrom, .ref q_nodeSize, .ref q_nodeValue, .int 1, .int 0, .ref q_texts, .ref q_oldField, .ref q_oldParent, .ref q_oldFrom, .null, .null, .null, .null, .int 0, .int 0, .int 0])) := by rw [← hh32]; exact z_keepN n_q_oldSize f31_mo
  have f32_q_tape : h32 q_tape = some ((21, 0), .inl (g.2.1 1, 4000, .inl (fun _ => 0))) := by rw [← hh32]; exact z_keepN n_q_oldSize f31_q_tape
  have f32_q_text : h32 q_text = some ((22, 0), .inl (g.2.1 1, 4000, .inl (fun _ => 0))) := by rw [← hh32]; exact z_keepN n_q_oldSize f31_q_text
  have f32_q_letters : h32 q_letters = some ((27, 0), .inl (g.2.1 1, 2048, .inl (fun _ => 0))) := by rw [← hh32]; exact z_keepN n_q_oldSize f31_q_letters
  have f32_q_freshLetters : h32 q_freshLetters = some ((28, 0), .inl (g.2.1 1, 2048, .inl (fun _ => 0))) := by rw [← hh32]; exact z_keepN n_q_oldSize f31_q_freshLetters
  have f32_q_nodeField : h32 q_nodeField = some ((29, 0), .inl (g.2.1 1, 2000, .inl (fun _ => 0))) := by rw [← hh32]; exact z_keepN n_q_oldSize f31_q_nodeField
  have f32_q_nodeParent : h32 q_nodeParent = some ((29, 1), .inl (g.2.1 1, 2000, .inl (fun _ => 0))) := by rw [← hh32]; exact z_keepN n_q_oldSize f31_q_nodeParent
  have f32_q_nodeFrom : h32 q_nodeFrom = some ((29, 2), .inl (g.2.1 1, 2000, .inl (fun _ => 0))) := by rw [← hh32]; exact z_keepN n_q_oldSize f31_q_nodeFrom
  have f32_q_nodeSize : h32 q_nodeSize = some ((29, 3), .inl (g.2.1 1, 2000, .inl (fun _ => 0))) := by rw [← hh32]; exact z_keepN n_q_oldSize f31_q_nodeSize
  have f32_q_nodeValue : h32 q_nodeValue = some ((30, 0), .inl (g.2.1 2, 2000, .inr (.inl (fun _ => 0)))) := by rw [← hh32]; exact z_keepN n_q_oldSize f31_q_nodeValue
  have f32_q_texts : h32 q_texts = some ((31, 0), .inl (g.2.1 1, 16000, .inl (fun _ => 0))) := by rw [← hh32]; exact z_keepN n_q_oldSize f31_q_texts
  have f32_q_oldField : h32 q_oldField = some ((32, 0), .inl (g.2.1 1, 2000, .inl (fun _ => 0))) := by rw [← hh32]; exact z_keepN n_q_oldSize f31_q_oldField
  have f32_q_oldParent : h32 q_oldParent = some ((32, 1), .inl (g.2.1 1, 2000, .inl (fun _ => 0))) := by rw [← hh32]; exact z_keepN n_q_oldSize f31_q_oldParent
  have f32_q_oldFrom : h32 q_oldFrom = some ((32, 2), .inl (g.2.1 1, 2000, .inl (fun _ => 0))) := by rw [← hh32]; exact z_keepN n_q_oldSize f31_q_oldFrom
  have f32_q_oldSize : h32 q_oldSize = some ((32, 3), .inl (g.2.1 1, 2000, .inl (fun _ => 0))) := by rw [← hh32]; exact z_put_eq
  have kk32 : z_K (fun y => 20 ≤ y ∧ y < 40) h h32 := kk31.tr (by rw [← hh32]; exact z_K.new n_q_oldSize)
  have sg_rowsh32 : z_K (fun y => y = 20 ∨ y = 29) h5 h32 := sg_rowsh31.tr (by rw [← hh32]; exact z_K.new n_q_oldSize)
  have sg_freshh32 : z_K (fun y => y = 20 ∨ y = 29) h7 h32 := sg_freshh31.tr (by rw [← hh32]; exact z_K.new n_q_oldSize)
  refine z_putF (ty := .array .int) hx hb hts (z_lay i_M) t_M t_M_ok n_M hown hK hw f32_mo rfl 24 (by decide) (z_in k_795 rfl) (fun _ h9 => h9) rfl hnm rfl (by decide +kernel) rfl rfl (Nat.le_of_ble_eq_true rfl) d_M_init_158 (fun H locs hw => ?_)
  obtain ⟨h33, hh33⟩ : ∃ x9, z_put h32 mo (20, 0) (.inr (11, [.int 0, .ref q_tape, .ref q_text, .int 0, .int 0, .ref q_rows, .ref q_fresh, .ref q_letters, .ref q_freshLetters, .int 0, .int 0, .int 0, .int 0, .ref q_nodeField, .ref q_nodeParent, .ref q_nodeFrom, .ref q_nodeSize, .ref q_nodeValue, .int 1, .int 0, .ref q_texts, .ref q_oldField, .ref q_oldParent, .ref q_oldFrom, .ref q_oldSize, .null, .null, .null, .int 0, .int 0, .int 0])) = x9 := ⟨_, rfl⟩
  have hw : z_S g A s.heap h33 H locs := by rw [← hh33]; exact hw
  have f33_mo : h33 mo = some ((20, 0), .inr (11, [.int 0, .ref q_tape, .ref q_text, .int 0, .int 0, .ref q_rows, .ref q_fresh, .ref q_letters, .ref q_freshLetters, .int 0, .int 0, .int 0, .int 0, .ref q_nodeField, .ref q_nodeParent, .ref q_nodeFrom, .ref q_nodeSize, .ref q_nodeValue, .int 1, .int 0, .ref q_texts, .ref q_oldField, .ref q_oldParent, .ref q_oldFrom, .ref q_oldSize, .null, .null, .null, .int 0, .int 0, .int 0])) := by rw [← hh33]; exact z_put_eq
  have f33_q_tape : h33 q_tape = some ((21, 0), .inl (g.2.1 1, 4000, .inl (fun _ => 0))) := by rw [← hh33]; exact (z_put_ne (Ne.symm ne_mo_q_tape)).trans f32_q_tape
  have f33_q_text : h33 q_text = some ((22, 0), .inl (g.2.1 1, 4000, .inl (fun _ => 0))) := by rw [← hh33]; exact (z_put_ne (Ne.symm ne_mo_q_text)).trans f32_q_text
  have f33_q_letters : h33 q_letters = some ((27, 0), .inl (g.2.1 1, 2048, .inl (fun _ => 0))) := by rw [← hh33]; exact (z_put_ne (Ne.symm ne_mo_q_letters)).trans f32_q_letters
  have f33_q_freshLetters : h33 q_freshLetters = some ((28, 0), .inl (g.2.1 1, 2048, .inl (fun _ => 0))) := by rw [← hh33]; exact (z_put_ne (Ne.symm ne_mo_q_freshLetters)).trans f32_q_freshLetters
  have f33_q_nodeField : h33 q_nodeField = some ((29, 0), .inl (g.2.1 1, 2000, .inl (fun _ => 0))) := by rw [← hh33]; exact (z_put_ne (Ne.symm ne_mo_q_nodeField)).trans f32_q_nodeField
  have f33_q_nodeParent : h33 q_nodeParent = some ((29, 1), .inl (g.2.1 1, 2000, .inl (fun _ => 0))) := by rw [← hh33]; exact (z_put_ne (Ne.symm ne_mo_q_nodeParent)).trans f32_q_nodeParent
  have f33_q_nodeFrom : h33 q_nodeFrom = some ((29, 2), .inl (g.2.1 1, 2000, .inl (fun _ => 0))) := by rw [← hh33]; exact (z_put_ne (Ne.symm ne_mo_q_nodeFrom)).trans f32_q_nodeFrom
  have f33_q_nodeSize : h33 q_nodeSize = some ((29, 3), .inl (g.2.1 1, 2000, .inl (fun _ => 0))) := by rw [← hh33]; exact (z_put_ne (Ne.symm ne_mo_q_nodeSize)).trans f32_q_nodeSize
  have f33_q_nodeValue : h33 q_nodeValue = some ((30, 0), .inl (g.2.1 2, 2000, .inr (.inl (fun _ => 0)))) := by rw [← hh33]; exact (z_put_ne (Ne.symm ne_mo_q_nodeValue)).trans f32_q_nodeValue
  have f33_q_texts : h33 q_texts = some ((31, 0), .inl (g.2.1 1, 16000, .inl (fun _ => 0))) := by rw [← hh33]; exact (z_put_ne (Ne.symm ne_mo_q_texts)).trans f32_q_texts
  have f33_q_oldField : h33 q_oldField = some ((32, 0), .inl (g.2.1 1, 2000, .inl (fun _ => 0))) := by rw [← hh33]; exact (z_put_ne (Ne.symm ne_mo_q_oldField)).trans f32_q_oldField
  have f33_q_oldParent : h33 q_oldParent = some ((32, 1), .inl (g.2.1 1, 2000, .inl (fun _ => 0))) := by rw [← hh33]; exact (z_put_ne (Ne.symm ne_mo_q_oldParent)).trans f32_q_oldParent
  have f33_q_oldFrom : h33 q_oldFrom = some ((32, 2), .inl (g.2.1 1, 2000, .inl (fun _ => 0))) := by rw [← hh33]; exact (z_put_ne (Ne.symm ne_mo_q_oldFrom)).trans f32_q_oldFrom
  have f33_q_oldSize : h33 q_oldSize = some ((32, 3), .inl (g.2.1 1, 2000, .inl (fun _ => 0))) := by rw [← hh33]; exact (z_put_ne (Ne.symm ne_mo_q_oldSize)).trans f32_q_oldSize
  have kk33 : z_K (fun y => 20 ≤ y ∧ y < 40) h h33 := kk32.tr (by rw [← hh33]; exact z_K.put f32_mo (by first | decide | simp | omega))
  have sg_rowsh33 : z_K (fun y => y = 20 ∨ y = 29) h5 h33 := sg_rowsh32.tr (by rw [← hh33]; exact z_K.put f32_mo (by simp))
  have sg_freshh33 : z_K (fun y => y = 20 ∨ y = 29) h7 h33 := sg_freshh32.tr (by rw [← hh33]; exact z_K.put f32_mo (by simp))
  refine lv_aload_n hx hb d_M_init_161 rfl (lv_at hl 0 rfl) ?_
  refine lv_sipush (v := 2000) hx hb d_M_init_162 (by decide) ?_
  refine z_newa (atype := .long) (N' := 2000) (a0 := (2000, .inr (.inl (fun _ => 0)))) hx hb hts (z_in k_865 rfl) hK hw hA 2 rfl rfl (fun C z => by cases z) (fun cA => rfl) (by decide) (by rfl) (by show _ ≤ _; simp [componentBytes]; try omega) (by first | exact Nat.le_of_ble_eq_true rfl | (dsimp only; omega) | omega) (by first | exact Nat.le_of_ble_eq_true rfl | (dsimp only; omega) | omega) d_M_init_165 (33, 0) (fun q_oldValue H n_q_oldValue hw => ?_)
  obtain ⟨h34, hh34⟩ : ∃ x9, z_put h33 q_oldValue (33, 0) (.inl (g.2.1 2, 2000, .inr (.inl (fun _ => 0)))) = x9 := ⟨_, rfl⟩
  have hw : z_S g A s.heap h34 H locs := by rw [← hh34]; exact hw
  have ne_mo_q_oldValue : z_NE mo q_oldValue := (show mo ≠ q_oldValue from fun z => by have z2 := f33_mo; rw [z, n_q_oldValue] at z2; cases z2)
  have ne_q_tape_q_oldValue : z_NE q_tape q_oldValue := (show q_tape ≠ q_oldValue from fun z => by have z2 := f33_q_tape; rw [z, n_q_oldValue] at z2; cases z2)
  have ne_q_text_q_oldValue : z_NE q_text q_oldValue := (show q_text ≠ q_oldValue from fun z => by have z2 := f33_q_text; rw [z, n_q_oldValue] at z2; cases z2)
  have ne_q_letters_q_oldValue : z_NE q_letters q_oldValue := (show q_letters ≠ q_oldValue from fun z => by have z2 := f33_q_letters; rw [z, n_q_oldValue] at z2; cases z2)
  have ne_q_freshLetters_q_oldValue : z_NE q_freshLetters q_oldValue := (show q_freshLetters ≠ q_oldValue from fun z => by have z2 := f33_q_freshLetters; rw [z, n_q_oldValue] at z2; cases z2)
  have ne_q_nodeField_q_oldValue : z_NE q_nodeField q_oldValue := (show q_nodeField ≠ q_oldValue from fun z => by have z2 := f33_q_nodeField; rw [z, n_q_oldValue] at z2; cases z2)
  have ne_q_nodeParent_q_oldValue : z_NE q_nodeParent q_oldValue := (show q_nodeParent ≠ q_oldValue from fun z => by have z2 := f33_q_nodeParent; rw [z, n_q_oldValue] at z2; cases z2)
  have ne_q_nodeFrom_q_oldValue : z_NE q_nodeFrom q_oldValue := (show q_nodeFrom ≠ q_oldValue from fun z => by have z2 := f33_q_nodeFrom; rw [z, n_q_oldValue] at z2; cases z2)
  have ne_q_nodeSize_q_oldValue : z_NE q_nodeSize q_oldValue := (show q_nodeSize ≠ q_oldValue from fun z => by have z2 := f33_q_nodeSize; rw [z, n_q_oldValue] at z2; cases z2)
  have ne_q_nodeValue_q_oldValue : z_NE q_nodeValue q_oldValue := (show q_nodeValue ≠ q_oldValue from fun z => by have z2 := f33_q_nodeValue; rw [z, n_q_oldValue] at z2; cases z2)
  have ne_q_texts_q_oldValue : z_NE q_texts q_oldValue := (show q_texts ≠ q_oldValue from fun z => by have z2 := f33_q_texts; rw [z, n_q_oldValue] at z2; cases z2)
  have ne_q_oldField_q_oldValue : z_NE q_oldField q_oldValue := (show q_oldField ≠ q_oldValue from fun z => by have z2 := f33_q_oldField; rw [z, n_q_oldValue] at z2; cases z2)
  have ne_q_oldParent_q_oldValue : z_NE q_oldParent q_oldValue := (show q_oldParent ≠ q_oldValue from fun z => by have z2 := f33_q_oldParent; rw [z, n_q_oldValue] at z2; cases z2)
  have ne_q_oldFrom_q_oldValue : z_NE q_oldFrom q_oldValue := (show q_oldFrom ≠ q_oldValue from fun z => by have z2 := f33_q_oldFrom; rw [z, n_q_oldValue] at z2; cases z2)
  have ne_q_oldSize_q_oldValue : z_NE q_oldSize q_oldValue := (show q_oldSize ≠ q_oldValue from fun z => by have z2 := f33_q_oldSize; rw [z, n_q_oldValue] at z2; cases z2)
  have f34_mo : h34 mo = some ((20, 0), .inr (11, [.int 0, .ref q_tape, .ref q_text, .int 0, .int 0, .ref q_rows, .ref q_fresh, .ref q_letters, .ref q_freshLetters, .int 0, .int 0, .int 0, .int 0, .ref q_nodeField, .ref q_nodeParent, .ref q_nodeFrom, .ref q_nodeSize, .ref q_nodeValue, .int 1, .int 0, .ref q_texts, .ref q_oldField, .ref q_oldParent, .ref q_oldFrom, .ref q_oldSize, .null, .null, .null, .int 0, .int 0, .int 0])) := by rw [← hh34]; exact z_keepN n_q_oldValue f33_mo
  have f34_q_tape : h34 q_tape = some ((21, 0), .inl (g.2.1 1, 4000, .inl (fun _ => 0))) := by rw [← hh34]; exact z_keepN n_q_oldValue f33_q_tape
  have f34_q_text : h34 q_text = some ((22, 0), .inl (g.2.1 1, 4000, .inl (fun _ => 0))) := by rw [← hh34]; exact z_keepN n_q_oldValue f33_q_text
  have f34_q_letters : h34 q_letters = some ((27, 0), .inl (g.2.1 1, 2048, .inl (fun _ => 0))) := by rw [← hh34]; exact z_keepN n_q_oldValue f33_q_letters
  have f34_q_freshLetters : h34 q_freshLetters = some ((28, 0), .inl (g.2.1 1, 2048, .inl (fun _ => 0))) := by rw [← hh34]; exact z_keepN n_q_oldValue f33_q_freshLetters
  have f34_q_nodeField : h34 q_nodeField = some ((29, 0), .inl (g.2.1 1, 2000, .inl (fun _ => 0))) := by rw [← hh34]; exact z_keepN n_q_oldValue f33_q_nodeField
  have f34_q_nodeParent : h34 q_nodeParent = some ((29, 1), .inl (g.2.1 1, 2000, .inl (fun _ => 0))) := by rw [← hh34]; exact z_keepN n_q_oldValue f33_q_nodeParent
  have f34_q_nodeFrom : h34 q_nodeFrom = some ((29, 2), .inl (g.2.1 1, 2000, .inl (fun _ => 0))) := by rw [← hh34]; exact z_keepN n_q_oldValue f33_q_nodeFrom
  have f34_q_nodeSize : h34 q_nodeSize = some ((29, 3), .inl (g.2.1 1, 2000, .inl (fun _ => 0))) := by rw [← hh34]; exact z_keepN n_q_oldValue f33_q_nodeSize
  have f34_q_nodeValue : h34 q_nodeValue = some ((30, 0), .inl (g.2.1 2, 2000, .inr (.inl (fun _ => 0)))) := by rw [← hh34]; exact z_keepN n_q_oldValue f33_q_nodeValue
  have f34_q_texts : h34 q_texts = some ((31, 0), .inl (g.2.1 1, 16000, .inl (fun _ => 0))) := by rw [← hh34]; exact z_keepN n_q_oldValue f33_q_texts
  have f34_q_oldField : h34 q_oldField = some ((32, 0), .inl (g.2.1 1, 2000, .inl (fun _ => 0))) := by rw [← hh34]; exact z_keepN n_q_oldValue f33_q_oldField
  have f34_q_oldParent : h34 q_oldParent = some ((32, 1), .inl (g.2.1 1, 2000, .inl (fun _ => 0))) := by rw [← hh34]; exact z_keepN n_q_oldValue f33_q_oldParent
  have f34_q_oldFrom : h34 q_oldFrom = some ((32, 2), .inl (g.2.1 1, 2000, .inl (fun _ => 0))) := by rw [← hh34]; exact z_keepN n_q_oldValue f33_q_oldFrom
  have f34_q_oldSize : h34 q_oldSize = some ((32, 3), .inl (g.2.1 1, 2000, .inl (fun _ => 0))) := by rw [← hh34]; exact z_keepN n_q_oldValue f33_q_oldSize
  have f34_q_oldValue : h34 q_oldValue = some ((33, 0), .inl (g.2.1 2, 2000, .inr (.inl (fun _ => 0)))) := by rw [← hh34]; exact z_put_eq
  have kk34 : z_K (fun y => 20 ≤ y ∧ y < 40) h h34 := kk33.tr (by rw [← hh34]; exact z_K.new n_q_oldValue)
  have sg_rowsh34 : z_K (fun y => y = 20 ∨ y = 29) h5 h34 := sg_rowsh33.tr (by rw [← hh34]; exact z_K.new n_q_oldValue)
  have sg_freshh34 : z_K (fun y => y = 20 ∨ y = 29) h7 h34 := sg_freshh33.tr (by rw [← hh34]; exact z_K.new n_q_oldValue)
  refine z_putF (ty := .array .long) hx hb hts (z_lay i_M) t_M t_M_ok n_M hown hK hw f34_mo rfl 25 (by decide) (z_in k_796 rfl) (fun _ h9 => h9) rfl hnm rfl (by decide +kernel) rfl rfl (Nat.le_of_ble_eq_true rfl) d_M_init_167 (fun H locs hw => ?_)
  obtain ⟨h35, hh35⟩ : ∃ x9, z_put h34 mo (20, 0) (.inr (11, [.int 0, .ref q_tape, .ref q_text, .int 0, .int 0, .ref q_rows, .ref q_fresh, .ref q_letters, .ref q_freshLetters, .int 0, .int 0, .int 0, .int 0, .ref q_nodeField, .ref q_nodeParent, .ref q_nodeFrom, .ref q_nodeSize, .ref q_nodeValue, .int 1, .int 0, .ref q_texts, .ref q_oldField, .ref q_oldParent, .ref q_oldFrom, .ref q_oldSize, .ref q_oldValue, .null, .null, .int 0, .int 0, .int 0])) = x9 := ⟨_, rfl⟩
  have hw : z_S g A s.heap h35 H locs := by rw [← hh35]; exact hw
  have f35_mo : h35 mo = some ((20, 0), .inr (11, [.int 0, .ref q_tape, .ref q_text, .int 0, .int 0, .ref q_rows, .ref q_fresh, .ref q_letters, .ref q_freshLetters, .int 0, .int 0, .int 0, .int 0, .ref q_nodeField, .ref q_nodeParent, .ref q_nodeFrom, .ref q_nodeSize, .ref q_nodeValue, .int 1, .int 0, .ref q_texts, .ref q_oldField, .ref q_oldParent, .ref q_oldFrom, .ref q_oldSize, .ref q_oldValue, .null, .null, .int 0, .int 0, .int 0])) := by rw [← hh35]; exact z_put_eq
  have f35_q_tape : h35 q_tape = some ((21, 0), .inl (g.2.1 1, 4000, .inl (fun _ => 0))) := by rw [← hh35]; exact (z_put_ne (Ne.symm ne_mo_q_tape)).trans f34_q_tape
  have f35_q_text : h35 q_text = some ((22, 0), .inl (g.2.1 1, 4000, .inl (fun _ => 0))) := by rw [← hh35]; exact (z_put_ne (Ne.symm ne_mo_q_text)).trans f34_q_text
  have f35_q_letters : h35 q_letters = some ((27, 0), .inl (g.2.1 1, 2048, .inl (fun _ => 0))) := by rw [← hh35]; exact (z_put_ne (Ne.symm ne_mo_q_letters)).trans f34_q_letters
  have f35_q_freshLetters : h35 q_freshLetters = some ((28, 0), .inl (g.2.1 1, 2048, .inl (fun _ => 0))) := by rw [← hh35]; exact (z_put_ne (Ne.symm ne_mo_q_freshLetters)).trans f34_q_freshLetters
  have f35_q_nodeField : h35 q_nodeField = some ((29, 0), .inl (g.2.1 1, 2000, .inl (fun _ => 0))) := by rw [← hh35]; exact (z_put_ne (Ne.symm ne_mo_q_nodeField)).trans f34_q_nodeField
  have f35_q_nodeParent : h35 q_nodeParent = some ((29, 1), .inl (g.2.1 1, 2000, .inl (fun _ => 0))) := by rw [← hh35]; exact (z_put_ne (Ne.symm ne_mo_q_nodeParent)).trans f34_q_nodeParent
  have f35_q_nodeFrom : h35 q_nodeFrom = some ((29, 2), .inl (g.2.1 1, 2000, .inl (fun _ => 0))) := by rw [← hh35]; exact (z_put_ne (Ne.symm ne_mo_q_nodeFrom)).trans f34_q_nodeFrom
  have f35_q_nodeSize : h35 q_nodeSize = some ((29, 3), .inl (g.2.1 1, 2000, .inl (fun _ => 0))) := by rw [← hh35]; exact (z_put_ne (Ne.symm ne_mo_q_nodeSize)).trans f34_q_nodeSize
  have f35_q_nodeValue : h35 q_nodeValue = some ((30, 0), .inl (g.2.1 2, 2000, .inr (.inl (fun _ => 0)))) := by rw [← hh35]; exact (z_put_ne (Ne.symm ne_mo_q_nodeValue)).trans f34_q_nodeValue
  have f35_q_texts : h35 q_texts = some ((31, 0), .inl (g.2.1 1, 16000, .inl (fun _ => 0))) := by rw [← hh35]; exact (z_put_ne (Ne.symm ne_mo_q_texts)).trans f34_q_texts
  have f35_q_oldField : h35 q_oldField = some ((32, 0), .inl (g.2.1 1, 2000, .inl (fun _ => 0))) := by rw [← hh35]; exact (z_put_ne (Ne.symm ne_mo_q_oldField)).trans f34_q_oldField
  have f35_q_oldParent : h35 q_oldParent = some ((32, 1), .inl (g.2.1 1, 2000, .inl (fun _ => 0))) := by rw [← hh35]; exact (z_put_ne (Ne.symm ne_mo_q_oldParent)).trans f34_q_oldParent
  have f35_q_oldFrom : h35 q_oldFrom = some ((32, 2), .inl (g.2.1 1, 2000, .inl (fun _ => 0))) := by rw [← hh35]; exact (z_put_ne (Ne.symm ne_mo_q_oldFrom)).trans f34_q_oldFrom
  have f35_q_oldSize : h35 q_oldSize = some ((32, 3), .inl (g.2.1 1, 2000, .inl (fun _ => 0))) := by rw [← hh35]; exact (z_put_ne (Ne.symm ne_mo_q_oldSize)).trans f34_q_oldSize
  have f35_q_oldValue : h35 q_oldValue = some ((33, 0), .inl (g.2.1 2, 2000, .inr (.inl (fun _ => 0)))) := by rw [← hh35]; exact (z_put_ne (Ne.symm ne_mo_q_oldValue)).trans f34_q_oldValue
  have kk35 : z_K (fun y => 20 ≤ y ∧ y < 40) h h35 := kk34.tr (by rw [← hh35]; exact z_K.put f34_mo (by first | decide | simp | omega))
  have sg_rowsh35 : z_K (fun y => y = 20 ∨ y = 29) h5 h35 := sg_rowsh34.tr (by rw [← hh35]; exact z_K.put f34_mo (by simp))
  have sg_freshh35 : z_K (fun y => y = 20 ∨ y = 29) h7 h35 := sg_freshh34.tr (by rw [← hh35]; exact z_K.put f34_mo (by simp))
  refine lv_aload_n hx hb d_M_init_170 rfl (lv_at hl 0 rfl) ?_
  refine lv_sipush (v := 16000) hx hb d_M_init_171 (by decide) ?_
  refine z_newa (atype := .int) (N' := 16000) (a0 := (16000, .inl (fun _ => 0))) hx hb hts (z_in k_82 rfl) hK hw hA 1 rfl rfl (fun C z => by cases z) (fun cA => rfl) (by decide) (by rfl) (by show _ ≤ _; simp [componentBytes]; try omega) (by first | exact Nat.le_of_ble_eq_true rfl | (dsimp only; omega) | omega) (by first | exact Nat.le_of_ble_eq_true rfl | (dsimp only; omega) | omega) d_M_init_174 (34, 0) (fun q_oldTexts H n_q_oldTexts hw => ?_)
  obtain ⟨h36, hh36⟩ : ∃ x9, z_put h35 q_oldTexts (34, 0) (.inl (g.2.1 1, 16000, .inl (fun _ => 0))) = x9 := ⟨_, rfl⟩
  have hw : z_S g A s.heap h36 H locs := by rw [← hh36]; exact hw
  have ne_mo_q_oldTexts : z_NE mo q_oldTexts := (show mo ≠ q_oldTexts from fun z => by have z2 := f35_mo; rw [z, n_q_oldTexts] at z2; cases z2)
  have ne_q_tape_q_oldTexts : z_NE q_tape q_oldTexts := (show q_tape ≠ q_oldTexts from fun z => by have z2 := f35_q_tape; rw [z, n_q_oldTexts] at z2; cases z2)
  have ne_q_text_q_oldTexts : z_NE q_text q_oldTexts := (show q_text ≠ q_oldTexts from fun z => by have z2 := f35_q_text; rw [z, n_q_oldTexts] at z2; cases z2)
  have ne_q_letters_q_oldTexts : z_NE q_letters q_oldTexts := (show q_letters ≠ q_oldTexts from fun z => by have z2 := f35_q_letters; rw [z, n_q_oldTexts] at z2; cases z2)
  have ne_q_freshLetters_q_oldTexts : z_NE q_freshLetters q_oldTexts := (show q_freshLetters ≠ q_oldTexts from fun z => by have z2 := f35_q_freshLetters; rw [z, n_q_oldTexts] at z2; cases z2)
  have ne_q_nodeField_q_oldTexts : z_NE q_nodeField q_oldTexts := (show q_nodeField ≠ q_oldTexts from fun z => by have z2 := f35_q_nodeField; rw [z, n_q_oldTexts] at z2; cases z2)
  have ne_q_nodeParent_q_oldTexts : z_NE q_nodeParent q_oldTexts := (show q_nodeParent ≠ q_oldTexts from fun z => by have z2 := f35_q_nodeParent; rw [z, n_q_oldTexts] at z2; cases z2)
  have ne_q_nodeFrom_q_oldTexts : z_NE q_nodeFrom q_oldTexts := (show q_nodeFrom ≠ q_oldTexts from fun z => by have z2 := f35_q_nodeFrom; rw [z, n_q_oldTexts] at z2; cases z2)
  have ne_q_nodeSize_q_oldTexts : z_NE q_nodeSize q_oldTexts := (show q_nodeSize ≠ q_oldTexts from fun z => by have z2 := f35_q_nodeSize; rw [z, n_q_oldTexts] at z2; cases z2)
  have ne_q_nodeValue_q_oldTexts : z_NE q_nodeValue q_oldTexts := (show q_nodeValue ≠ q_oldTexts from fun z => by have z2 := f35_q_nodeValue; rw [z, n_q_oldTexts] at z2; cases z2)
  have ne_q_texts_q_oldTexts : z_NE q_texts q_oldTexts := (show q_texts ≠ q_oldTexts from fun z => by have z2 := f35_q_texts; rw [z, n_q_oldTexts] at z2; cases z2)
  have ne_q_oldField_q_oldTexts : z_NE q_oldField q_oldTexts := (show q_oldField ≠ q_oldTexts from fun z => by have z2 := f35_q_oldField; rw [z, n_q_oldTexts] at z2; cases z2)
  have ne_q_oldParent_q_oldTexts : z_NE q_oldParent q_oldTexts := (show q_oldParent ≠ q_oldTexts from fun z => by have z2 := f35_q_oldParent; rw [z, n_q_oldTexts] at z2; cases z2)
  have ne_q_oldFrom_q_oldTexts : z_NE q_oldFrom q_oldTexts := (show q_oldFrom ≠ q_oldTexts from fun z => by have z2 := f35_q_oldFrom; rw [z, n_q_oldTexts] at z2; cases z2)
  have ne_q_oldSize_q_oldTexts : z_NE q_oldSize q_oldTexts := (show q_oldSize ≠ q_oldTexts from fun z => by have z2 := f35_q_oldSize; rw [z, n_q_oldTexts] at z2; cases z2)
  have ne_q_oldValue_q_oldTexts : z_NE q_oldValue q_oldTexts := (show q_oldValue ≠ q_oldTexts from fun z => by have z2 := f35_q_oldValue; rw [z, n_q_oldTexts] at z2; cases z2)
  have f36_mo : h36 mo = some ((20, 0), .inr (11, [.int 0, .ref q_tape, .ref q_text, .int 0, .int 0, .ref q_rows, .ref q_fresh, .ref q_letters, .ref q_freshLetters, .int 0, .int 0, .int 0, .int 0, .ref q_nodeField, .ref q_nodeParent, .ref q_nodeFrom, .ref q_nodeSize, .ref q_nodeValue, .int 1, .int 0, .ref q_texts, .ref q_oldField, .ref q_oldParent, .ref q_oldFrom, .ref q_oldSize, .ref q_oldValue, .null, .null, .int 0, .int 0, .int 0])) := by rw [← hh36]; exact z_keepN n_q_oldTexts f35_mo
  have f36_q_tape : h36 q_tape = some ((21, 0), .inl (g.2.1 1, 4000, .inl (fun _ => 0))) := by rw [← hh36]; exact z_keepN n_q_oldTexts f35_q_tape
  have f36_q_text : h36 q_text = some ((22, 0), .inl (g.2.1 1, 4000, .inl (fun _ => 0))) := by rw [← hh36]; exact z_keepN n_q_oldTexts f35_q_text
  have f36_q_letters : h36 q_letters = some ((27, 0), .inl (g.2.1 1, 2048, .inl (fun _ => 0))) := by rw [← hh36]; exact z_keepN n_q_oldTexts f35_q_letters
  have f36_q_freshLetters : h36 q_freshLetters = some ((28, 0), .inl (g.2.1 1, 2048, .inl (fun _ => 0))) := by rw [← hh36]; exact z_keepN n_q_oldTexts f35_q_freshLetters
  have f36_q_nodeField : h36 q_nodeField = some ((29, 0), .inl (g.2.1 1, 2000, .inl (fun _ => 0))) := by rw [← hh36]; exact z_keepN n_q_oldTexts f35_q_nodeField
  have f36_q_nodeParent : h36 q_nodeParent = some ((29, 1), .inl (g.2.1 1, 2000, .inl (fun _ => 0))) := by rw [← hh36]; exact z_keepN n_q_oldTexts f35_q_nodeParent
  have f36_q_nodeFrom : h36 q_nodeFrom = some ((29, 2), .inl (g.2.1 1, 2000, .inl (fun _ => 0))) := by rw [← hh36]; exact z_keepN n_q_oldTexts f35_q_nodeFrom
  have f36_q_nodeSize : h36 q_nodeSize = some ((29, 3), .inl (g.2.1 1, 2000, .inl (fun _ => 0))) := by rw [← hh36]; exact z_keepN n_q_oldTexts f35_q_nodeSize
  have f36_q_nodeValue : h36 q_nodeValue = some ((30, 0), .inl (g.2.1 2, 2000, .inr (.inl (fun _ => 0)))) := by rw [← hh36]; exact z_keepN n_q_oldTexts f35_q_nodeValue
  have f36_q_texts : h36 q_texts = some ((31, 0), .inl (g.2.1 1, 16000, .inl (fun _ => 0))) := by rw [← hh36]; exact z_keepN n_q_oldTexts f35_q_texts
  have f36_q_oldField : h36 q_oldField = some ((32, 0), .inl (g.2.1 1, 2000, .inl (fun _ => 0))) := by rw [← hh36]; exact z_keepN n_q_oldTexts f35_q_oldField
  have f36_q_oldParent : h36 q_oldParent = some ((32, 1), .inl (g.2.1 1, 2000, .inl (fun _ => 0))) := by rw [← hh36]; exact z_keepN n_q_oldTexts f35_q_oldParent
  have f36_q_oldFrom : h36 q_oldFrom = some ((32, 2), .inl (g.2.1 1, 2000, .inl (fun _ => 0))) := by rw [← hh36]; exact z_keepN n_q_oldTexts f35_q_oldFrom
  have f36_q_oldSize : h36 q_oldSize = some ((32, 3), .inl (g.2.1 1, 2000, .inl (fun _ => 0))) := by rw [← hh36]; exact z_keepN n_q_oldTexts f35_q_oldSize
  have f36_q_oldValue : h36 q_oldValue = some ((33, 0), .inl (g.2.1 2, 2000, .inr (.inl (fun _ => 0)))) := by rw [← hh36]; exact z_keepN n_q_oldTexts f35_q_oldValue
  have f36_q_oldTexts : h36 q_oldTexts = some ((34, 0), .inl (g.2.1 1, 16000, .inl (fun _ => 0))) := by rw [← hh36]; exact z_put_eq
  have kk36 : z_K (fun y => 20 ≤ y ∧ y < 40) h h36 := kk35.tr (by rw [← hh36]; exact z_K.new n_q_oldTexts)
  have sg_rowsh36 : z_K (fun y => y = 20 ∨ y = 29) h5 h36 := sg_rowsh35.tr (by rw [← hh36]; exact z_K.new n_q_oldTexts)
  have sg_freshh36 : z_K (fun y => y = 20 ∨ y = 29) h7 h36 := sg_freshh35.tr (by rw [← hh36]; exact z_K.new n_q_oldTexts)
  refine z_putF (ty := .array .int) hx hb hts (z_lay i_M) t_M t_M_ok n_M hown hK hw f36_mo rfl 26 (by decide) (z_in k_797 rfl) (fun _ h9 => h9) rfl hnm rfl (by decide +kernel) rfl rfl (Nat.le_of_ble_eq_true rfl) d_M_init_176 (fun H locs hw => ?_)
  obtain ⟨h37, hh37⟩ : ∃ x9, z_put h36 mo (20, 0) (.inr (11, [.int 0, .ref q_tape, .ref q_text, .int 0, .int 0, .ref q_rows, .ref q_fresh, .ref q_letters, .ref q_freshLetters, .int 0, .int 0, .int 0, .int 0, .ref q_nodeField, .ref q_nodeParent, .ref q_nodeFrom, .ref q_nodeSize, .ref q_nodeValue, .int 1, .int 0, .ref q_texts, .ref q_oldField, .ref q_oldParent, .ref q_oldFrom, .ref q_oldSize, .ref q_oldValue, .ref q_oldTexts, .null, .int 0, .int 0, .int 0])) = x9 := ⟨_, rfl⟩
  have hw : z_S g A s.heap h37 H locs := by rw [← hh37]; exact hw
  have f37_mo : h37 mo = some ((20, 0), .inr (11, [.int 0, .ref q_tape, .ref q_text, .int 0, .int 0, .ref q_rows, .ref q_fresh, .ref q_letters, .ref q_freshLetters, .int 0, .int 0, .int 0, .int 0, .ref q_nodeField, .ref q_nodeParent, .ref q_nodeFrom, .ref q_nodeSize, .ref q_nodeValue, .int 1, .int 0, .ref q_texts, .ref q_oldField, .ref q_oldParent, .ref q_oldFrom, .ref q_oldSize, .ref q_oldValue, .ref q_oldTexts, .null, .int 0, .int 0, .int 0])) := by rw [← hh37]; exact z_put_eq
  have f37_q_tape : h37 q_tape = some ((21, 0), .inl (g.2.1 1, 4000, .inl (fun _ => 0))) := by rw [← hh37]; exact (z_put_ne (Ne.symm ne_mo_q_tape)).trans f36_q_tape
  have f37_q_text : h37 q_text = some ((22, 0), .inl (g.2.1 1, 4000, .inl (fun _ => 0))) := by rw [← hh37]; exact (z_put_ne (Ne.symm ne_mo_q_text)).trans f36_q_text
  have f37_q_letters : h37 q_letters = some ((27, 0), .inl (g.2.1 1, 2048, .inl (fun _ => 0))) := by rw [← hh37]; exact (z_put_ne (Ne.symm ne_mo_q_letters)).trans f36_q_letters
  have f37_q_freshLetters : h37 q_freshLetters = some ((28, 0), .inl (g.2.1 1, 2048, .inl (fun _ => 0))) := by rw [← hh37]; exact (z_put_ne (Ne.symm ne_mo_q_freshLetters)).trans f36_q_freshLetters
  have f37_q_nodeField : h37 q_nodeField = some ((29, 0), .inl (g.2.1 1, 2000, .inl (fun _ => 0))) := by rw [← hh37]; exact (z_put_ne (Ne.symm ne_mo_q_nodeField)).trans f36_q_nodeField
  have f37_q_nodeParent : h37 q_nodeParent = some ((29, 1), .inl (g.2.1 1, 2000, .inl (fun _ => 0))) := by rw [← hh37]; exact (z_put_ne (Ne.symm ne_mo_q_nodeParent)).trans f36_q_nodeParent
  have f37_q_nodeFrom : h37 q_nodeFrom = some ((29, 2), .inl (g.2.1 1, 2000, .inl (fun _ => 0))) := by rw [← hh37]; exact (z_put_ne (Ne.symm ne_mo_q_nodeFrom)).trans f36_q_nodeFrom
  have f37_q_nodeSize : h37 q_nodeSize = some ((29, 3), .inl (g.2.1 1, 2000, .inl (fun _ => 0))) := by rw [← hh37]; exact (z_put_ne (Ne.symm ne_mo_q_nodeSize)).trans f36_q_nodeSize
  have f37_q_nodeValue : h37 q_nodeValue = some ((30, 0), .inl (g.2.1 2, 2000, .inr (.inl (fun _ => 0)))) := by rw [← hh37]; exact (z_put_ne (Ne.symm ne_mo_q_nodeValue)).trans f36_q_nodeValue
  have f37_q_texts : h37 q_texts = some ((31, 0), .inl (g.2.1 1, 16000, .inl (fun _ => 0))) := by rw [← hh37]; exact (z_put_ne (Ne.symm ne_mo_q_texts)).trans f36_q_texts
  have f37_q_oldField : h37 q_oldField = some ((32, 0), .inl (g.2.1 1, 2000, .inl (fun _ => 0))) := by rw [← hh37]; exact (z_put_ne (Ne.symm ne_mo_q_oldField)).trans f36_q_oldField
  have f37_q_oldParent : h37 q_oldParent = some ((32, 1), .inl (g.2.1 1, 2000, .inl (fun _ => 0))) := by rw [← hh37]; exact (z_put_ne (Ne.symm ne_mo_q_oldParent)).trans f36_q_oldParent
  have f37_q_oldFrom : h37 q_oldFrom = some ((32, 2), .inl (g.2.1 1, 2000, .inl (fun _ => 0))) := by rw [← hh37]; exact (z_put_ne (Ne.symm ne_mo_q_oldFrom)).trans f36_q_oldFrom
  have f37_q_oldSize : h37 q_oldSize = some ((32, 3), .inl (g.2.1 1, 2000, .inl (fun _ => 0))) := by rw [← hh37]; exact (z_put_ne (Ne.symm ne_mo_q_oldSize)).trans f36_q_oldSize
  have f37_q_oldValue : h37 q_oldValue = some ((33, 0), .inl (g.2.1 2, 2000, .inr (.inl (fun _ => 0)))) := by rw [← hh37]; exact (z_put_ne (Ne.symm ne_mo_q_oldValue)).trans f36_q_oldValue
  have f37_q_oldTexts : h37 q_oldTexts = some ((34, 0), .inl (g.2.1 1, 16000, .inl (fun _ => 0))) := by rw [← hh37]; exact (z_put_ne (Ne.symm ne_mo_q_oldTexts)).trans f36_q_oldTexts
  have kk37 : z_K (fun y => 20 ≤ y ∧ y < 40) h h37 := kk36.tr (by rw [← hh37]; exact z_K.put f36_mo (by first | decide | simp | omega))
  have sg_rowsh37 : z_K (fun y => y = 20 ∨ y = 29) h5 h37 := sg_rowsh36.tr (by rw [← hh37]; exact z_K.put f36_mo (by simp))
  have sg_freshh37 : z_K (fun y => y = 20 ∨ y = 29) h7 h37 := sg_freshh36.tr (by rw [← hh37]; exact z_K.put f36_mo (by simp))
  refine lv_aload_n hx hb d_M_init_179 rfl (lv_at hl 0 rfl) ?_
  refine lv_ldc hx hb hown (hts _ (z_in k_770 rfl)) d_M_init_180 ?_
  refine z_newa (atype := .int) (N' := 160000) (a0 := (160000, .inl (fun _ => 0))) hx hb hts (z_in k_82 rfl) hK hw hA 1 rfl rfl (fun C z => by cases z) (fun cA => rfl) (by decide) (by rfl) (by show _ ≤ _; simp [componentBytes]; try omega) (by first | exact Nat.le_of_ble_eq_true rfl | (dsimp only; omega) | omega) (by first | exact Nat.le_of_ble_eq_true rfl | (dsimp only; omega) | omega) d_M_init_182 (35, 0) (fun q_out H n_q_out hw => ?_)
  obtain ⟨h38, hh38⟩ : ∃ x9, z_put h37 q_out (35, 0) (.inl (g.2.1 1, 160000, .inl (fun _ => 0))) = x9 := ⟨_, rfl⟩
  have hw : z_S g A s.heap h38 H locs := by rw [← hh38]; exact hw
  have ne_mo_q_out : z_NE mo q_out := (show mo ≠ q_out from fun z => by have z2 := f37_mo; rw [z, n_q_out] at z2; cases z2)
  have ne_q_tape_q_out : z_NE q_tape q_out := (show q_tape ≠ q_out from fun z => by have z2 := f37_q_tape; rw [z, n_q_out] at z2; cases z2)
  have ne_q_text_q_out : z_NE q_text q_out := (show q_text ≠ q_out from fun z => by have z2 := f37_q_text; rw [z, n_q_out] at z2; cases z2)
  have ne_q_letters_q_out : z_NE q_letters q_out := (show q_letters ≠ q_out from fun z => by have z2 := f37_q_letters; rw [z, n_q_out] at z2; cases z2)
  have ne_q_freshLetters_q_out : z_NE q_freshLetters q_out := (show q_freshLetters ≠ q_out from fun z => by have z2 := f37_q_freshLetters; rw [z, n_q_out] at z2; cases z2)
  have ne_q_nodeField_q_out : z_NE q_nodeField q_out := (show q_nodeField ≠ q_out from fun z => by have z2 := f37_q_nodeField; rw [z, n_q_out] at z2; cases z2)
  have ne_q_nodeParent_q_out : z_NE q_nodeParent q_out := (show q_nodeParent ≠ q_out from fun z => by have z2 := f37_q_nodeParent; rw [z, n_q_out] at z2; cases z2)
  have ne_q_nodeFrom_q_out : z_NE q_nodeFrom q_out := (show q_nodeFrom ≠ q_out from fun z => by have z2 := f37_q_nodeFrom; rw [z, n_q_out] at z2; cases z2)
  have ne_q_nodeSize_q_out : z_NE q_nodeSize q_out := (show q_nodeSize ≠ q_out from fun z => by have z2 := f37_q_nodeSize; rw [z, n_q_out] at z2; cases z2)
  have ne_q_nodeValue_q_out : z_NE q_nodeValue q_out := (show q_nodeValue ≠ q_out from fun z => by have z2 := f37_q_nodeValue; rw [z, n_q_out] at z2; cases z2)
  have ne_q_texts_q_out : z_NE q_texts q_out := (show q_texts ≠ q_out from fun z => by have z2 := f37_q_texts; rw [z, n_q_out] at z2; cases z2)
  have ne_q_oldField_q_out : z_NE q_oldField q_out := (show q_oldField ≠ q_out from fun z => by have z2 := f37_q_oldField; rw [z, n_q_out] at z2; cases z2)
  have ne_q_oldParent_q_out : z_NE q_oldParent q_out := (show q_oldParent ≠ q_out from fun z => by have z2 := f37_q_oldParent; rw [z, n_q_out] at z2; cases z2)
  have ne_q_oldFrom_q_out : z_NE q_oldFrom q_out := (show q_oldFrom ≠ q_out from fun z => by have z2 := f37_q_oldFrom; rw [z, n_q_out] at z2; cases z2)
  have ne_q_oldSize_q_out : z_NE q_oldSize q_out := (show q_oldSize ≠ q_out from fun z => by have z2 := f37_q_oldSize; rw [z, n_q_out] at z2; cases z2)
  have ne_q_oldValue_q_out : z_NE q_oldValue q_out := (show q_oldValue ≠ q_out from fun z => by have z2 := f37_q_oldValue; rw [z, n_q_out] at z2; cases z2)
  have ne_q_oldTexts_q_out : z_NE q_oldTexts q_out := (show q_oldTexts ≠ q_out from fun z => by have z2 := f37_q_oldTexts; rw [z, n_q_out] at z2; cases z2)
  have f38_mo : h38 mo = some ((20, 0), .inr (11, [.int 0, .ref q_tape, .ref q_text, .int 0, .int 0, .ref q_rows, .ref q_fresh, .ref q_letters, .ref q_freshLetters, .int 0, .int 0, .int 0, .int 0, .ref q_nodeField, .ref q_nodeParent, .ref q_nodeFrom, .ref q_nodeSize, .ref q_nodeValue, .int 1, .int 0, .ref q_texts, .ref q_oldField, .ref q_oldParent, .ref q_oldFrom, .ref q_oldSize, .ref q_oldValue, .ref q_oldTexts, .null, .int 0, .int 0, .int 0])) := by rw [← hh38]; exact z_keepN n_q_out f37_mo
  have f38_q_tape : h38 q_tape = some ((21, 0), .inl (g.2.1 1, 4000, .inl (fun _ => 0))) := by rw [← hh38]; exact z_keepN n_q_out f37_q_tape
  have f38_q_text : h38 q_text = some ((22, 0), .inl (g.2.1 1, 4000, .inl (fun _ => 0))) := by rw [← hh38]; exact z_keepN n_q_out f37_q_text
  have f38_q_letters : h38 q_letters = some ((27, 0), .inl (g.2.1 1, 2048, .inl (fun _ => 0))) := by rw [← hh38]; exact z_keepN n_q_out f37_q_letters
  have f38_q_freshLetters : h38 q_freshLetters = some ((28, 0), .inl (g.2.1 1, 2048, .inl (fun _ => 0))) := by rw [← hh38]; exact z_keepN n_q_out f37_q_freshLetters
  have f38_q_nodeField : h38 q_nodeField = some ((29, 0), .inl (g.2.1 1, 2000, .inl (fun _ => 0))) := by rw [← hh38]; exact z_keepN n_q_out f37_q_nodeField
  have f38_q_nodeParent : h38 q_nodeParent = some ((29, 1), .inl (g.2.1 1, 2000, .inl (fun _ => 0))) := by rw [← hh38]; exact z_keepN n_q_out f37_q_nodeParent
  have f38_q_nodeFrom : h38 q_nodeFrom = some ((29, 2), .inl (g.2.1 1, 2000, .inl (fun _ => 0))) := by rw [← hh38]; exact z_keepN n_q_out f37_q_nodeFrom
  have f38_q_nodeSize : h38 q_nodeSize = some ((29, 3), .inl (g.2.1 1, 2000, .inl (fun _ => 0))) := by rw [← hh38]; exact z_keepN n_q_out f37_q_nodeSize
  have f38_q_nodeValue : h38 q_nodeValue = some ((30, 0), .inl (g.2.1 2, 2000, .inr (.inl (fun _ => 0)))) := by rw [← hh38]; exact z_keepN n_q_out f37_q_nodeValue
  have f38_q_texts : h38 q_texts = some ((31, 0), .inl (g.2.1 1, 16000, .inl (fun _ => 0))) := by rw [← hh38]; exact z_keepN n_q_out f37_q_texts
  have f38_q_oldField : h38 q_oldField = some ((32, 0), .inl (g.2.1 1, 2000, .inl (fun _ => 0))) := by rw [← hh38]; exact z_keepN n_q_out f37_q_oldField
  have f38_q_oldParent : h38 q_oldParent = some ((32, 1), .inl (g.2.1 1, 2000, .inl (fun _ => 0))) := by rw [← hh38]; exact z_keepN n_q_out f37_q_oldParent
  have f38_q_oldFrom : h38 q_oldFrom = some ((32, 2), .inl (g.2.1 1, 2000, .inl (fun _ => 0))) := by rw [← hh38]; exact z_keepN n_q_out f37_q_oldFrom
  have f38_q_oldSize : h38 q_oldSize = some ((32, 3), .inl (g.2.1 1, 2000, .inl (fun _ => 0))) := by rw [← hh38]; exact z_keepN n_q_out f37_q_oldSize
  have f38_q_oldValue : h38 q_oldValue = some ((33, 0), .inl (g.2.1 2, 2000, .inr (.inl (fun _ => 0)))) := by rw [← hh38]; exact z_keepN n_q_out f37_q_oldValue
  have f38_q_oldTexts : h38 q_oldTexts = some ((34, 0), .inl (g.2.1 1, 16000, .inl (fun _ => 0))) := by rw [← hh38]; exact z_keepN n_q_out f37_q_oldTexts
  have f38_q_out : h38 q_out = some ((35, 0), .inl (g.2.1 1, 160000, .inl (fun _ => 0))) := by rw [← hh38]; exact z_put_eq
  have kk38 : z_K (fun y => 20 ≤ y ∧ y < 40) h h38 := kk37.tr (by rw [← hh38]; exact z_K.new n_q_out)
  have sg_rowsh38 : z_K (fun y => y = 20 ∨ y = 29) h5 h38 := sg_rowsh37.tr (by rw [← hh38]; exact z_K.new n_q_out)
  have sg_freshh38 : z_K (fun y => y = 20 ∨ y = 29) h7 h38 := sg_freshh37.tr (by rw [← hh38]; exact z_K.new n_q_out)
  refine z_putF (ty := .array .int) hx hb hts (z_lay i_M) t_M t_M_ok n_M hown hK hw f38_mo rfl 27 (by decide) (z_in k_798 rfl) (fun _ h9 => h9) rfl hnm rfl (by decide +kernel) rfl rfl (Nat.le_of_ble_eq_true rfl) d_M_init_184 (fun H locs hw => ?_)
  obtain ⟨h39, hh39⟩ : ∃ x9, z_put h38 mo (20, 0) (.inr (11, [.int 0, .ref q_tape, .ref q_text, .int 0, .int 0, .ref q_rows, .ref q_fresh, .ref q_letters, .ref q_freshLetters, .int 0, .int 0, .int 0, .int 0, .ref q_nodeField, .ref q_nodeParent, .ref q_nodeFrom, .ref q_nodeSize, .ref q_nodeValue, .int 1, .int 0, .ref q_texts, .ref q_oldField, .ref q_oldParent, .ref q_oldFrom, .ref q_oldSize, .ref q_oldValue, .ref q_oldTexts, .ref q_out, .int 0, .int 0, .int 0])) = x9 := ⟨_, rfl⟩
  have hw : z_S g A s.heap h39 H locs := by rw [← hh39]; exact hw
  have f39_mo : h39 mo = some ((20, 0), .inr (11, [.int 0, .ref q_tape, .ref q_text, .int 0, .int 0, .ref q_rows, .ref q_fresh, .ref q_letters, .ref q_freshLetters, .int 0, .int 0, .int 0, .int 0, .ref q_nodeField, .ref q_nodeParent, .ref q_nodeFrom, .ref q_nodeSize, .ref q_nodeValue, .int 1, .int 0, .ref q_texts, .ref q_oldField, .ref q_oldParent, .ref q_oldFrom, .ref q_oldSize, .ref q_oldValue, .ref q_oldTexts, .ref q_out, .int 0, .int 0, .int 0])) := by rw [← hh39]; exact z_put_eq
  have f39_q_tape : h39 q_tape = some ((21, 0), .inl (g.2.1 1, 4000, .inl (fun _ => 0))) := by rw [← hh39]; exact (z_put_ne (Ne.symm ne_mo_q_tape)).trans f38_q_tape
  have f39_q_text : h39 q_text = some ((22, 0), .inl (g.2.1 1, 4000, .inl (fun _ => 0))) := by rw [← hh39]; exact (z_put_ne (Ne.symm ne_mo_q_text)).trans f38_q_text
  have f39_q_letters : h39 q_letters = some ((27, 0), .inl (g.2.1 1, 2048, .inl (fun _ => 0))) := by rw [← hh39]; exact (z_put_ne (Ne.symm ne_mo_q_letters)).trans f38_q_letters
  have f39_q_freshLetters : h39 q_freshLetters = some ((28, 0), .inl (g.2.1 1, 2048, .inl (fun _ => 0))) := by rw [← hh39]; exact (z_put_ne (Ne.symm ne_mo_q_freshLetters)).trans f38_q_freshLetters
  have f39_q_nodeField : h39 q_nodeField = some ((29, 0), .inl (g.2.1 1, 2000, .inl (fun _ => 0))) := by rw [← hh39]; exact (z_put_ne (Ne.symm ne_mo_q_nodeField)).trans f38_q_nodeField
  have f39_q_nodeParent : h39 q_nodeParent = some ((29, 1), .inl (g.2.1 1, 2000, .inl (fun _ => 0))) := by rw [← hh39]; exact (z_put_ne (Ne.symm ne_mo_q_nodeParent)).trans f38_q_nodeParent
  have f39_q_nodeFrom : h39 q_nodeFrom = some ((29, 2), .inl (g.2.1 1, 2000, .inl (fun _ => 0))) := by rw [← hh39]; exact (z_put_ne (Ne.symm ne_mo_q_nodeFrom)).trans f38_q_nodeFrom
  have f39_q_nodeSize : h39 q_nodeSize = some ((29, 3), .inl (g.2.1 1, 2000, .inl (fun _ => 0))) := by rw [← hh39]; exact (z_put_ne (Ne.symm ne_mo_q_nodeSize)).trans f38_q_nodeSize
  have f39_q_nodeValue : h39 q_nodeValue = some ((30, 0), .inl (g.2.1 2, 2000, .inr (.inl (fun _ => 0)))) := by rw [← hh39]; exact (z_put_ne (Ne.symm ne_mo_q_nodeValue)).trans f38_q_nodeValue
  have f39_q_texts : h39 q_texts = some ((31, 0), .inl (g.2.1 1, 16000, .inl (fun _ => 0))) := by rw [← hh39]; exact (z_put_ne (Ne.symm ne_mo_q_texts)).trans f38_q_texts
  have f39_q_oldField : h39 q_oldField = some ((32, 0), .inl (g.2.1 1, 2000, .inl (fun _ => 0))) := by rw [← hh39]; exact (z_put_ne (Ne.symm ne_mo_q_oldField)).trans f38_q_oldField
  have f39_q_oldParent : h39 q_oldParent = some ((32, 1), .inl (g.2.1 1, 2000, .inl (fun _ => 0))) := by rw [← hh39]; exact (z_put_ne (Ne.symm ne_mo_q_oldParent)).trans f38_q_oldParent
  have f39_q_oldFrom : h39 q_oldFrom = some ((32, 2), .inl (g.2.1 1, 2000, .inl (fun _ => 0))) := by rw [← hh39]; exact (z_put_ne (Ne.symm ne_mo_q_oldFrom)).trans f38_q_oldFrom
  have f39_q_oldSize : h39 q_oldSize = some ((32, 3), .inl (g.2.1 1, 2000, .inl (fun _ => 0))) := by rw [← hh39]; exact (z_put_ne (Ne.symm ne_mo_q_oldSize)).trans f38_q_oldSize
  have f39_q_oldValue : h39 q_oldValue = some ((33, 0), .inl (g.2.1 2, 2000, .inr (.inl (fun _ => 0)))) := by rw [← hh39]; exact (z_put_ne (Ne.symm ne_mo_q_oldValue)).trans f38_q_oldValue
  have f39_q_oldTexts : h39 q_oldTexts = some ((34, 0), .inl (g.2.1 1, 16000, .inl (fun _ => 0))) := by rw [← hh39]; exact (z_put_ne (Ne.symm ne_mo_q_oldTexts)).trans f38_q_oldTexts
  have f39_q_out : h39 q_out = some ((35, 0), .inl (g.2.1 1, 160000, .inl (fun _ => 0))) := by rw [← hh39]; exact (z_put_ne (Ne.symm ne_mo_q_out)).trans f38_q_out
  have kk39 : z_K (fun y => 20 ≤ y ∧ y < 40) h h39 := kk38.tr (by rw [← hh39]; exact z_K.put f38_mo (by first | decide | simp | omega))
  have sg_rowsh39 : z_K (fun y => y = 20 ∨ y = 29) h5 h39 := sg_rowsh38.tr (by rw [← hh39]; exact z_K.put f38_mo (by simp))
  have sg_freshh39 : z_K (fun y => y = 20 ∨ y = 29) h7 h39 := sg_freshh38.tr (by rw [← hh39]; exact z_K.put f38_mo (by simp))
  refine lv_aload_n hx hb d_M_init_187 rfl (lv_at hl 0 rfl) ?_
  refine z_get hx hb hts (z_lay i_M) hown hK hw f39_mo rfl 13 (by decide) (z_in k_784 rfl) (fun _ h9 => h9) rfl d_M_init_188 ?_
  refine lv_iconst (v := 0) hx hb d_M_init_191 (by decide) ?_
  refine lv_iconst (v := (-1)) hx hb d_M_init_192 (by decide) ?_
  refine z_iast hx hb hK hw f39_q_nodeField 1 rfl (show ¬ ((0 : Int32) < 0 ∨ 2000 ≤ (0 : Int32).toNatClampNeg) by decide) d_M_init_193 (fun H locs hw => ?_)
  rw [show (0 : Int32).toNatClampNeg = 0 from rfl] at hw
  obtain ⟨h40, hh40⟩ : ∃ x9, z_put h39 q_nodeField (29, 0) (.inl (g.2.1 1, 2000, .inl (upd (fun _ => 0) 0 (-1)))) = x9 := ⟨_, rfl⟩
  have hw : z_S g A s.heap h40 H locs := by rw [← hh40]; exact hw
  have f40_mo : h40 mo = some ((20, 0), .inr (11, [.int 0, .ref q_tape, .ref q_text, .int 0, .int 0, .ref q_rows, .ref q_fresh, .ref q_letters, .ref q_freshLetters, .int 0, .int 0, .int 0, .int 0, .ref q_nodeField, .ref q_nodeParent, .ref q_nodeFrom, .ref q_nodeSize, .ref q_nodeValue, .int 1, .int 0, .ref q_texts, .ref q_oldField, .ref q_oldParent, .ref q_oldFrom, .ref q_oldSize, .ref q_oldValue, .ref q_oldTexts, .ref q_out, .int 0, .int 0, .int 0])) := by rw [← hh40]; exact (z_put_ne ne_mo_q_nodeField).trans f39_mo
  have f40_q_tape : h40 q_tape = some ((21, 0), .inl (g.2.1 1, 4000, .inl (fun _ => 0))) := by rw [← hh40]; exact (z_put_ne ne_q_tape_q_nodeField).trans f39_q_tape
  have f40_q_text : h40 q_text = some ((22, 0), .inl (g.2.1 1, 4000, .inl (fun _ => 0))) := by rw [← hh40]; exact (z_put_ne ne_q_text_q_nodeField).trans f39_q_text
  have f40_q_letters : h40 q_letters = some ((27, 0), .inl (g.2.1 1, 2048, .inl (fun _ => 0))) := by rw [← hh40]; exact (z_put_ne ne_q_letters_q_nodeField).trans f39_q_letters
  have f40_q_freshLetters : h40 q_freshLetters = some ((28, 0), .inl (g.2.1 1, 2048, .inl (fun _ => 0))) := by rw [← hh40]; exact (z_put_ne ne_q_freshLetters_q_nodeField).trans f39_q_freshLetters
  have f40_q_nodeField : h40 q_nodeField = some ((29, 0), .inl (g.2.1 1, 2000, .inl (upd (fun _ => 0) 0 (-1)))) := by rw [← hh40]; exact z_put_eq
  have f40_q_nodeParent : h40 q_nodeParent = some ((29, 1), .inl (g.2.1 1, 2000, .inl (fun _ => 0))) := by rw [← hh40]; exact (z_put_ne (Ne.symm ne_q_nodeField_q_nodeParent)).trans f39_q_nodeParent
  have f40_q_nodeFrom : h40 q_nodeFrom = some ((29, 2), .inl (g.2.1 1, 2000, .inl (fun _ => 0))) := by rw [← hh40]; exact (z_put_ne (Ne.symm ne_q_nodeField_q_nodeFrom)).trans f39_q_nodeFrom
  have f40_q_nodeSize : h40 q_nodeSize = some ((29, 3), .inl (g.2.1 1, 2000, .inl (fun _ => 0))) := by rw [← hh40]; exact (z_put_ne (Ne.symm ne_q_nodeField_q_nodeSize)).trans f39_q_nodeSize
  have f40_q_nodeValue : h40 q_nodeValue = some ((30, 0), .inl (g.2.1 2, 2000, .inr (.inl (fun _ => 0)))) := by rw [← hh40]; exact (z_put_ne (Ne.symm ne_q_nodeField_q_nodeValue)).trans f39_q_nodeValue
  have f40_q_texts : h40 q_texts = some ((31, 0), .inl (g.2.1 1, 16000, .inl (fun _ => 0))) := by rw [← hh40]; exact (z_put_ne (Ne.symm ne_q_nodeField_q_texts)).trans f39_q_texts
  have f40_q_oldField : h40 q_oldField = some ((32, 0), .inl (g.2.1 1, 2000, .inl (fun _ => 0))) := by rw [← hh40]; exact (z_put_ne (Ne.symm ne_q_nodeField_q_oldField)).trans f39_q_oldField
  have f40_q_oldParent : h40 q_oldParent = some ((32, 1), .inl (g.2.1 1, 2000, .inl (fun _ => 0))) := by rw [← hh40]; exact (z_put_ne (Ne.symm ne_q_nodeField_q_oldParent)).trans f39_q_oldParent
  have f40_q_oldFrom : h40 q_oldFrom = some ((32, 2), .inl (g.2.1 1, 2000, .inl (fun _ => 0))) := by rw [← hh40]; exact (z_put_ne (Ne.symm ne_q_nodeField_q_oldFrom)).trans f39_q_oldFrom
  have f40_q_oldSize : h40 q_oldSize = some ((32, 3), .inl (g.2.1 1, 2000, .inl (fun _ => 0))) := by rw [← hh40]; exact (z_put_ne (Ne.symm ne_q_nodeField_q_oldSize)).trans f39_q_oldSize
  have f40_q_oldValue : h40 q_oldValue = some ((33, 0), .inl (g.2.1 2, 2000, .inr (.inl (fun _ => 0)))) := by rw [← hh40]; exact (z_put_ne (Ne.symm ne_q_nodeField_q_oldValue)).trans f39_q_oldValue
  have f40_q_oldTexts : h40 q_oldTexts = some ((34, 0), .inl (g.2.1 1, 16000, .inl (fun _ => 0))) := by rw [← hh40]; exact (z_put_ne (Ne.symm ne_q_nodeField_q_oldTexts)).trans f39_q_oldTexts
  have f40_q_out : h40 q_out = some ((35, 0), .inl (g.2.1 1, 160000, .inl (fun _ => 0))) := by rw [← hh40]; exact (z_put_ne (Ne.symm ne_q_nodeField_q_out)).trans f39_q_out
  have kk40 : z_K (fun y => 20 ≤ y ∧ y < 40) h h40 := kk39.tr (by rw [← hh40]; exact z_K.put f39_q_nodeField (by first | decide | simp | omega))
  have sg_rowsh40 : z_K (fun y => y = 20 ∨ y = 29) h5 h40 := sg_rowsh39.tr (by rw [← hh40]; exact z_K.put f39_q_nodeField (by simp))
  have sg_freshh40 : z_K (fun y => y = 20 ∨ y = 29) h7 h40 := sg_freshh39.tr (by rw [← hh40]; exact z_K.put f39_q_nodeField (by simp))
  refine lv_aload_n hx hb d_M_init_194 rfl (lv_at hl 0 rfl) ?_
  refine z_get hx hb hts (z_lay i_M) hown hK hw f40_mo rfl 14 (by decide) (z_in k_785 rfl) (fun _ h9 => h9) rfl d_M_init_195 ?_
  refine lv_iconst (v := 0) hx hb d_M_init_198 (by decide) ?_
  refine lv_iconst (v := (-1)) hx hb d_M_init_199 (by decide) ?_
  refine z_iast hx hb hK hw f40_q_nodeParent 1 rfl (show ¬ ((0 : Int32) < 0 ∨ 2000 ≤ (0 : Int32).toNatClampNeg) by decide) d_M_init_200 (fun H locs hw => ?_)
  rw [show (0 : Int32).toNatClampNeg = 0 from rfl] at hw
  obtain ⟨h41, hh41⟩ : ∃ x9, z_put h40 q_nodeParent (29, 1) (.inl (g.2.1 1, 2000, .inl (upd (fun _ => 0) 0 (-1)))) = x9 := ⟨_, rfl⟩
  have hw : z_S g A s.heap h41 H locs := by rw [← hh41]; exact hw
  have f41_mo : h41 mo = some ((20, 0), .inr (11, [.int 0, .ref q_tape, .ref q_text, .int 0, .int 0, .ref q_rows, .ref q_fresh, .ref q_letters, .ref q_freshLetters, .int 0, .int 0, .int 0, .int 0, .ref q_nodeField, .ref q_nodeParent, .ref q_nodeFrom, .ref q_nodeSize, .ref q_nodeValue, .int 1, .int 0, .ref q_texts, .ref q_oldField, .ref q_oldParent, .ref q_oldFrom, .ref q_oldSize, .ref q_oldValue, .ref q_oldTexts, .ref q_out, .int 0, .int 0, .int 0])) := by rw [← hh41]; exact (z_put_ne ne_mo_q_nodeParent).trans f40_mo
  have f41_q_tape : h41 q_tape = some ((21, 0), .inl (g.2.1 1, 4000, .inl (fun _ => 0))) := by rw [← hh41]; exact (z_put_ne ne_q_tape_q_nodeParent).trans f40_q_tape
  have f41_q_text : h41 q_text = some ((22, 0), .inl (g.2.1 1, 4000, .inl (fun _ => 0))) := by rw [← hh41]; exact (z_put_ne ne_q_text_q_nodeParent).trans f40_q_text
  have f41_q_letters : h41 q_letters = some ((27, 0), .inl (g.2.1 1, 2048, .inl (fun _ => 0))) := by rw [← hh41]; exact (z_put_ne ne_q_letters_q_nodeParent).trans f40_q_letters
  have f41_q_freshLetters : h41 q_freshLetters = some ((28, 0), .inl (g.2.1 1, 2048, .inl (fun _ => 0))) := by rw [← hh41]; exact (z_put_ne ne_q_freshLetters_q_nodeParent).trans f40_q_freshLetters
  have f41_q_nodeField : h41 q_nodeField = some ((29, 0), .inl (g.2.1 1, 2000, .inl (upd (fun _ => 0) 0 (-1)))) := by rw [← hh41]; exact (z_put_ne ne_q_nodeField_q_nodeParent).trans f40_q_nodeField
  have f41_q_nodeParent : h41 q_nodeParent = some ((29, 1), .inl (g.2.1 1, 2000, .inl (upd (fun _ => 0) 0 (-1)))) := by rw [← hh41]; exact z_put_eq
  have f41_q_nodeFrom : h41 q_nodeFrom = some ((29, 2), .inl (g.2.1 1, 2000, .inl (fun _ => 0))) := by rw [← hh41]; exact (z_put_ne (Ne.symm ne_q_nodeParent_q_nodeFrom)).trans f40_q_nodeFrom
  have f41_q_nodeSize : h41 q_nodeSize = some ((29, 3), .inl (g.2.1 1, 2000, .inl (fun _ => 0))) := by rw [← hh41]; exact (z_put_ne (Ne.symm ne_q_nodeParent_q_nodeSize)).trans f40_q_nodeSize
  have f41_q_nodeValue : h41 q_nodeValue = some ((30, 0), .inl (g.2.1 2, 2000, .inr (.inl (fun _ => 0)))) := by rw [← hh41]; exact (z_put_ne (Ne.symm ne_q_nodeParent_q_nodeValue)).trans f40_q_nodeValue
  have f41_q_texts : h41 q_texts = some ((31, 0), .inl (g.2.1 1, 16000, .inl (fun _ => 0))) := by rw [← hh41]; exact (z_put_ne (Ne.symm ne_q_nodeParent_q_texts)).trans f40_q_texts
  have f41_q_oldField : h41 q_oldField = some ((32, 0), .inl (g.2.1 1, 2000, .inl (fun _ => 0))) := by rw [← hh41]; exact (z_put_ne (Ne.symm ne_q_nodeParent_q_oldField)).trans f40_q_oldField
  have f41_q_oldParent : h41 q_oldParent = some ((32, 1), .inl (g.2.1 1, 2000, .inl (fun _ => 0))) := by rw [← hh41]; exact (z_put_ne (Ne.symm ne_q_nodeParent_q_oldParent)).trans f40_q_oldParent
  have f41_q_oldFrom : h41 q_oldFrom = some ((32, 2), .inl (g.2.1 1, 2000, .inl (fun _ => 0))) := by rw [← hh41]; exact (z_put_ne (Ne.symm ne_q_nodeParent_q_oldFrom)).trans f40_q_oldFrom
  have f41_q_oldSize : h41 q_oldSize = some ((32, 3), .inl (g.2.1 1, 2000, .inl (fun _ => 0))) := by rw [← hh41]; exact (z_put_ne (Ne.symm ne_q_nodeParent_q_oldSize)).trans f40_q_oldSize
  have f41_q_oldValue : h41 q_oldValue = some ((33, 0), .inl (g.2.1 2, 2000, .inr (.inl (fun _ => 0)))) := by rw [← hh41]; exact (z_put_ne (Ne.symm ne_q_nodeParent_q_oldValue)).trans f40_q_oldValue
  have f41_q_oldTexts : h41 q_oldTexts = some ((34, 0), .inl (g.2.1 1, 16000, .inl (fun _ => 0))) := by rw [← hh41]; exact (z_put_ne (Ne.symm ne_q_nodeParent_q_oldTexts)).trans f40_q_oldTexts
  have f41_q_out : h41 q_out = some ((35, 0), .inl (g.2.1 1, 160000, .inl (fun _ => 0))) := by rw [← hh41]; exact (z_put_ne (Ne.symm ne_q_nodeParent_q_out)).trans f40_q_out
  have kk41 : z_K (fun y => 20 ≤ y ∧ y < 40) h h41 := kk40.tr (by rw [← hh41]; exact z_K.put f40_q_nodeParent (by first | decide | simp | omega))
  have sg_rowsh41 : z_K (fun y => y = 20 ∨ y = 29) h5 h41 := sg_rowsh40.tr (by rw [← hh41]; exact z_K.put f40_q_nodeParent (by simp))
  have sg_freshh41 : z_K (fun y => y = 20 ∨ y = 29) h7 h41 := sg_freshh40.tr (by rw [← hh41]; exact z_K.put f40_q_nodeParent (by simp))
  exact z_vret hx hb hr hlocks hw ⟨rfl, ⟨fun k => [q_tape, q_text, q_rows, q_fresh, q_letters, q_freshLetters, q_nodeField, q_nodeParent, q_nodeFrom, q_nodeSize, q_nodeValue, q_texts, q_oldField, q_oldParent, q_oldFrom, q_oldSize, q_oldValue, q_oldTexts, q_out].getD k 0, 0, 0, 0, 0, 0, 0, f41_mo, ⟨_, f41_q_tape, Nat.zero_le _, fun k hk => absurd hk (Nat.not_lt_zero _)⟩, ⟨_, f41_q_text⟩, ⟨fun k => q_rows + 1 + k, fun _ _ => 0, _, sg_rowsh41 _ _ _ o_rows (by simp), fun k hk => sg_rowsh41 _ _ _ (r_rows k hk) (by simp), f41_q_letters, fun i hi => absurd hi (Nat.not_lt_zero _)⟩, ⟨fun k => q_fresh + 1 + k, fun _ _ => 0, _, sg_freshh41 _ _ _ o_fresh (by simp), fun k hk => sg_freshh41 _ _ _ (r_fresh k hk) (by simp), f41_q_freshLetters, fun i hi => absurd hi (Nat.not_lt_zero _)⟩, ⟨_, _, _, _, _, _, f41_q_nodeField, f41_q_nodeParent, f41_q_nodeFrom, f41_q_nodeSize, f41_q_nodeValue, f41_q_texts, fun i hi => by have e : i = 0 := Nat.lt_one_iff.mp hi; subst e; exact ⟨rfl, rfl, fun z => absurd z (Nat.lt_irrefl _)⟩⟩, ⟨_, _, _, _, _, _, f41_q_oldField, f41_q_oldParent, f41_q_oldFrom, f41_q_oldSize, f41_q_oldValue, f41_q_oldTexts⟩, ⟨_, f41_q_out, Nat.zero_le _, fun k hk => absurd hk (Nat.not_lt_zero _)⟩⟩, kk41.mono (fun y z => by unfold KMr; omega)⟩ (by decide) (by decide) d_M_init_201

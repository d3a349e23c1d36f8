set_option maxHeartbeats 4000000 in
set_option maxRecDepth 100000 in
theorem c_nodeAt (l : Launch) (g : z_G) (h : z_H) {mr w : Nat} {S : Sch} {R : Rec} {ra : Nat} {ad tx : Nat → Nat} {rf : Nat → Option Nat} {tf : Nat → Nat → Int32} {i : Nat}  (hN : NdP g h mr w S R ra ad tx rf tf) (hi : i < R.1) : z_C l y_NodeRow_nodeAt prog_5_method_3_code 2 (Option.some (Jvm.ClassFile.FieldType.object "SchemaRecords$Node")) 0 0 0 0 g [.ref w, .int (nI i)] h (fun x h1 => x = some (.ref (ad i)) ∧ h = h1) := by
  refine z_C.of (by decide) (Nat.le_of_ble_eq_true rfl) (fun pg en s m below meth cd A ls hx hb hml hr hts hown hlocks hnm hK hE hA hw hl => ?_)
  have hl : lv_has ls 2 [(0, .ref w), (1, .int (nI i))] := hl
  obtain ⟨hww, hra, hnd, htx, hs1, hs2, htb⟩ := id hN
  refine lv_iload_n hx hb d_NodeRow_nodeAt_0 rfl (lv_at hl 1 rfl) ?_
  refine lv_if_lt (tgt := 21) hx hb d_NodeRow_nodeAt_1 (by decide) (fun c_1 => ?_) (fun c_1 => ?_)
  · -- 1: True
    have c_1 : i < 0 := (nI_ltI (a := i) (b := 0) (by omega) (by omega)).mp c_1
    omega
  · -- 1: False
    have c_1 : ¬ (i < 0) := fun z => c_1 ((nI_ltI (a := i) (b := 0) (by omega) (by omega)).mpr z)
    refine lv_iload_n hx hb d_NodeRow_nodeAt_4 rfl (lv_at hl 1 rfl) ?_
    refine lv_aload_n hx hb d_NodeRow_nodeAt_5 rfl (lv_at hl 0 rfl) ?_
    refine z_get hx hb hts (z_lay i_NodeRow) hown hK hw hww rfl 1 (by decide) (z_in k_135 rfl) (fun _ h9 => h9) rfl d_NodeRow_nodeAt_6 ?_
    refine lv_icmp_ge (tgt := 21) hx hb d_NodeRow_nodeAt_9 (by decide) (fun c_9 => ?_) (fun c_9 => ?_)
    · -- 9: True
      have c_9 : R.1 ≤ i := (nI_leI (a := R.1) (b := i) (by omega) (by omega)).mp c_9
      omega
    · -- 9: False
      have c_9 : ¬ (R.1 ≤ i) := fun z => c_9 ((nI_leI (a := R.1) (b := i) (by omega) (by omega)).mpr z)
      refine lv_iload_n hx hb d_NodeRow_nodeAt_12 rfl (lv_at hl 1 rfl) ?_
      refine lv_aload_n hx hb d_NodeRow_nodeAt_13 rfl (lv_at hl 0 rfl) ?_
      refine z_get hx hb hts (z_lay i_NodeRow) hown hK hw hww rfl 0 (by decide) (z_in k_134 rfl) (fun _ h9 => h9) rfl d_NodeRow_nodeAt_14 ?_
      refine z_alen hx hb hK hw hra 4 rfl d_NodeRow_nodeAt_17 ?_
      refine lv_icmp_lt (tgt := 25) hx hb d_NodeRow_nodeAt_18 (by decide) (fun c_18 => ?_) (fun c_18 => ?_)
      · -- 18: True
        have c_18 : i < 2000 := (nI_ltI (a := i) (b := 2000) (by omega) (by omega)).mp c_18
        refine lv_aload_n hx hb d_NodeRow_nodeAt_25 rfl (lv_at hl 0 rfl) ?_
        refine z_get hx hb hts (z_lay i_NodeRow) hown hK hw hww rfl 0 (by decide) (z_in k_134 rfl) (fun _ h9 => h9) rfl d_NodeRow_nodeAt_26 ?_
        refine lv_iload_n hx hb d_NodeRow_nodeAt_29 rfl (lv_at hl 1 rfl) ?_
        refine z_aldq hx hb hK hw hra 4 rfl (vp_in_nI (by omega) (by omega)) d_NodeRow_nodeAt_30 ?_
        refine z_top (y := va_rf (rf i)) (by rw [nI_clamp (by omega)]) ?_
        refine z_top (y := .ref (ad i)) (by rw [(hnd i hi).1]; rfl) ?_
        exact z_aret hx hb hr (Or.inl ⟨_, rfl⟩) (Or.inr ⟨_, rfl⟩) hlocks hw ⟨rfl, rfl⟩ (by decide) (by decide) d_NodeRow_nodeAt_31
      · -- 18: False
        have c_18 : ¬ (i < 2000) := fun z => c_18 ((nI_ltI (a := i) (b := 2000) (by omega) (by omega)).mpr z)
        omega

set_option maxHeartbeats 4000000 in
set_option maxRecDepth 100000 in
theorem c_nodeAt_no (l : Launch) (g : z_G) (h : z_H) {mr w : Nat} {S : Sch} {R : Rec} {ra : Nat} {ad tx : Nat → Nat} {rf : Nat → Option Nat} {tf : Nat → Nat → Int32} {k : Int32}  (hN : NdP g h mr w S R ra ad tx rf tf) (hk : k < 0 ∨ nI R.1 ≤ k) : z_C l y_NodeRow_nodeAt prog_5_method_3_code 2 (Option.some (Jvm.ClassFile.FieldType.object "SchemaRecords$Node")) 0 0 0 0 g [.ref w, .int k] h (fun x h1 => x = some .null ∧ h = h1) := by
  refine z_C.of (by decide) (Nat.le_of_ble_eq_true rfl) (fun pg en s m below meth cd A ls hx hb hml hr hts hown hlocks hnm hK hE hA hw hl => ?_)
  have hl : lv_has ls 2 [(0, .ref w), (1, .int k)] := hl
  obtain ⟨hww, hra, hnd, htx, hs1, hs2, htb⟩ := id hN
  refine lv_iload_n hx hb d_NodeRow_nodeAt_0 rfl (lv_at hl 1 rfl) ?_
  refine lv_if_lt (tgt := 21) hx hb d_NodeRow_nodeAt_1 (by decide) (fun c_1 => ?_) (fun c_1 => ?_)
  · -- 1: True
    refine lv_null hx hb d_NodeRow_nodeAt_21 ?_
    refine lv_goto (tgt := 31) hx hb d_NodeRow_nodeAt_22 (by decide) ?_
    exact z_aret hx hb hr (Or.inl ⟨_, rfl⟩) (Or.inl rfl) hlocks hw ⟨rfl, rfl⟩ (by decide) (by decide) d_NodeRow_nodeAt_31
  · -- 1: False
    refine lv_iload_n hx hb d_NodeRow_nodeAt_4 rfl (lv_at hl 1 rfl) ?_
    refine lv_aload_n hx hb d_NodeRow_nodeAt_5 rfl (lv_at hl 0 rfl) ?_
    refine z_get hx hb hts (z_lay i_NodeRow) hown hK hw hww rfl 1 (by decide) (z_in k_135 rfl) (fun _ h9 => h9) rfl d_NodeRow_nodeAt_6 ?_
    refine lv_icmp_ge (tgt := 21) hx hb d_NodeRow_nodeAt_9 (by decide) (fun c_9 => ?_) (fun c_9 => ?_)
    · -- 9: True
      refine lv_null hx hb d_NodeRow_nodeAt_21 ?_
      refine lv_goto (tgt := 31) hx hb d_NodeRow_nodeAt_22 (by decide) ?_
      exact z_aret hx hb hr (Or.inl ⟨_, rfl⟩) (Or.inl rfl) hlocks hw ⟨rfl, rfl⟩ (by decide) (by decide) d_NodeRow_nodeAt_31
    · -- 9: False
      rcases hk with z | z; exact absurd z c_1; exact absurd z c_9

theorem rec0_ok : paOK rec0 := ⟨rfl, fun i h0 hi => by have : i < 1 := hi; omega⟩
theorem rec0_C (S : Sch) (i : Nat) (hi : i < 1) : chC rec0.2 (nI i) 1 = 0 ∧ lfC rec0.2 (nI i) 1 = -1 ∧ rtC S rec0.2 (nI i) 1 = 0 := none_C 1 (fun j _ z => nI_ne1 (k := i) (by omega) z.symm)
theorem NdP.zero {g : z_G} {h1 : z_H} {mr w : Nat} (S : Sch) {ra nn : Nat} {rf : Nat → Option Nat} {tf : Nat → Nat → Int32} (a : h1 w = some ((mr, 0), .inr (5, [.ref ra, .int 1, .int 0]))) (b : h1 ra = some ((mr, 1), .inl (g.2.1 4, 2000, .inr (.inr (.inr (.inr rf)))))) (hr : rf 0 = some nn) (c : h1 nn = some ((mr + 1, 0), .inr (6, [.int (-1), .int (-1), .long 0, .ref (g.2.2 0), .int 0, .int (-1), .int 0]))) : NdP g h1 mr w S rec0 ra (fun _ => nn) (fun _ => g.2.2 0) rf tf := by
  refine ⟨a, b, fun i hi => ?_, fun i hi => Or.inl ⟨rfl, rfl⟩, Nat.le_refl _, by decide, by decide⟩
  have hi' : i < 1 := hi
  obtain ⟨e1, e2, e3⟩ := rec0_C S i hi'
  rw [show rec0.1 = 1 from rfl, e1, e2, e3]
  have e0 : i = 0 := by omega
  subst e0
  exact ⟨hr, c⟩

set_option maxHeartbeats 4000000 in
set_option maxRecDepth 100000 in
theorem c_NodeRow_clear (l : Launch) (g : z_G) (h : z_H) {mr w ra : Nat} {a c : Int32} {rf : Nat → Option Nat} (hww : h w = some ((mr, 0), .inr (5, [.ref ra, .int a, .int c]))) (hra : h ra = some ((mr, 1), .inl (g.2.1 4, 2000, .inr (.inr (.inr (.inr rf))))))  : z_C l y_NodeRow_clear prog_5_method_2_code 1 (Option.none : Option Jvm.ClassFile.FieldType) 2 40 1 7 g [.ref w] h (fun x h1 => ∃ ad tx rf2 tf, x = none ∧ (∀ S : Sch, NdP g h1 mr w S rec0 ra ad tx rf2 tf) ∧ z_KT (fun t => t = (mr, 0) ∨ t = (mr, 1) ∨ t = (mr + 1, 0)) h h1) := by
  refine z_C.of (by decide) (Nat.le_of_ble_eq_true rfl) (fun pg en s m below meth cd A ls hx hb hml hr hts hown hlocks hnm hK hE hA hw hl => ?_)
  have hl : lv_has ls 1 [(0, .ref w)] := hl
  have kk0 : z_KT (fun t => t = (mr, 0) ∨ t = (mr, 1) ∨ t = (mr + 1, 0)) h h := z_KT.rf
  refine lv_aload_n hx hb d_NodeRow_clear_0 rfl (lv_at hl 0 rfl) ?_
  refine z_get hx hb hts (z_lay i_NodeRow) hown hK hw hww rfl 0 (by decide) (z_in k_134 rfl) (fun _ h9 => h9) rfl d_NodeRow_clear_1 ?_
  refine lv_iconst (v := 0) hx hb d_NodeRow_clear_4 (by decide) ?_
  refine z_new (ci := 6) (fs := [.int 0, .int 0, .long 0, .null, .int 0, .int 0, .int 0]) hx hb hts (z_lay i_Node) t_Node t_Node_ok hown (z_in k_89 rfl) (z_in k_95 rfl) (z_in k_6 rfl) hK hw hA rfl (fun j hj => by rcases (show j = 0 ∨ j = 1 ∨ j = 2 ∨ j = 3 ∨ j = 4 ∨ j = 5 ∨ j = 6 by omega) with rfl | rfl | rfl | rfl | rfl | rfl | rfl <;> rfl) (by first | exact Nat.le_of_ble_eq_true rfl | (dsimp only; omega) | omega) (by first | exact Nat.le_of_ble_eq_true rfl | (dsimp only; omega) | omega) d_NodeRow_clear_5 (mr + 1, 0) (fun nn H n_nn hw => ?_)
  obtain ⟨h1, hh1⟩ : ∃ x9, z_put h nn (mr + 1, 0) (.inr (6, [.int 0, .int 0, .long 0, .null, .int 0, .int 0, .int 0])) = x9 := ⟨_, rfl⟩
  have hw : z_S g A s.heap h1 H [] := by rw [← hh1]; exact hw
  have ne_w_nn : w ≠ nn := fun z => by have z2 := hww; rw [z, n_nn] at z2; cases z2
  have ne_ra_nn : ra ≠ nn := fun z => by have z2 := hra; rw [z, n_nn] at z2; cases z2
  have f1_w : h1 w = some ((mr, 0), .inr (5, [.ref ra, .int a, .int c])) := by rw [← hh1]; exact z_keepN n_nn hww
  have f1_ra : h1 ra = some ((mr, 1), .inl (g.2.1 4, 2000, .inr (.inr (.inr (.inr rf))))) := by rw [← hh1]; exact z_keepN n_nn hra
  have f1_nn : h1 nn = some ((mr + 1, 0), .inr (6, [.int 0, .int 0, .long 0, .null, .int 0, .int 0, .int 0])) := by rw [← hh1]; exact z_put_eq
  have kk1 : z_KT (fun t => t = (mr, 0) ∨ t = (mr, 1) ∨ t = (mr + 1, 0)) h h1 := kk0.tr (by rw [← hh1]; exact z_KT.new n_nn)
  refine lv_dup hx hb d_NodeRow_clear_8 rfl ?_
  refine lv_iconst (v := (-1)) hx hb d_NodeRow_clear_9 (by decide) ?_
  refine lv_iconst (v := (-1)) hx hb d_NodeRow_clear_10 (by decide) ?_
  refine lv_lconst (v := 0) hx hb d_NodeRow_clear_11 (by decide) ?_
  refine z_nob (ref := "") hx hb hE hw hown (z_inN k_96 rfl) d_NodeRow_clear_12 ?_
  refine z_callI (n := 4) (As := [.int (-1), .int (-1), .long 0, .ref (g.2.2 0)]) (rest := [.ref nn, .int 0, .ref ra]) ⟨hx, hb, hml, hown, hts⟩ (c_Node_init l g h1 f1_nn) (z_in k_100 rfl) (z_in k_6 rfl) (z_in k_98 rfl) (z_in k_99 rfl) rfl (by decide +kernel) ⟨by first | exact Nat.le_of_ble_eq_true rfl | (dsimp only; omega) | omega, by first | exact Nat.le_of_ble_eq_true rfl | (dsimp only; omega) | omega⟩ hK hE hw hA rfl hl.1 (Nat.le_of_ble_eq_true rfl) d_NodeRow_clear_15 ⟨by first | exact Nat.le_of_ble_eq_true rfl | (dsimp only; omega) | omega, by first | exact Nat.le_of_ble_eq_true rfl | (dsimp only; omega) | omega⟩ rfl (fun r9 h9 H locs hp hw => ?_)
  obtain ⟨r8, hh2⟩ := hp
  subst r8
  obtain ⟨h2, e8⟩ : ∃ x9, x9 = h9 := ⟨_, rfl⟩
  subst e8
  have f2_w : h2 w = some ((mr, 0), .inr (5, [.ref ra, .int a, .int c])) := by rw [← hh2]; exact (z_put_ne ne_w_nn).trans f1_w
  have f2_ra : h2 ra = some ((mr, 1), .inl (g.2.1 4, 2000, .inr (.inr (.inr (.inr rf))))) := by rw [← hh2]; exact (z_put_ne ne_ra_nn).trans f1_ra
  have f2_nn : h2 nn = some ((mr + 1, 0), .inr (6, [.int (-1), .int (-1), .long 0, .ref (g.2.2 0), .int 0, .int (-1), .int 0])) := by rw [← hh2]; exact z_put_eq
  have kk2 : z_KT (fun t => t = (mr, 0) ∨ t = (mr, 1) ∨ t = (mr + 1, 0)) h h2 := kk1.tr (by rw [← hh2]; exact z_KT.put f1_nn (by first | decide | simp | omega))
  refine W.eq (g2 := F0 m 18 ls [.ref nn, .int 0, .ref ra]) rfl ?_
  refine z_astq hx hb hK hw f2_ra 4 rfl f2_nn rfl (vp_in_nI (n := 0) (by decide) (by decide)) d_NodeRow_clear_18 (fun H locs hw => ?_)
  rw [show (0 : Int32).toNatClampNeg = 0 from rfl] at hw
  obtain ⟨h3, hh3⟩ : ∃ x9, z_put h2 ra (mr, 1) (.inl (g.2.1 4, 2000, .inr (.inr (.inr (.inr (va_up rf 0 (some nn))))))) = x9 := ⟨_, rfl⟩
  have hw : z_S g A s.heap h3 H locs := by rw [← hh3]; exact hw
  have f3_w : h3 w = some ((mr, 0), .inr (5, [.ref ra, .int a, .int c])) := by rw [← hh3]; exact z_keep f2_ra f2_w (z_t2 (by omega))
  have f3_ra : h3 ra = some ((mr, 1), .inl (g.2.1 4, 2000, .inr (.inr (.inr (.inr (va_up rf 0 (some nn))))))) := by rw [← hh3]; exact z_put_eq
  have f3_nn : h3 nn = some ((mr + 1, 0), .inr (6, [.int (-1), .int (-1), .long 0, .ref (g.2.2 0), .int 0, .int (-1), .int 0])) := by rw [← hh3]; exact (z_put_ne (Ne.symm ne_ra_nn)).trans f2_nn
  have kk3 : z_KT (fun t => t = (mr, 0) ∨ t = (mr, 1) ∨ t = (mr + 1, 0)) h h3 := kk2.tr (by rw [← hh3]; exact z_KT.put f2_ra (by first | decide | simp | omega))
  refine lv_aload_n hx hb d_NodeRow_clear_19 rfl (lv_at hl 0 rfl) ?_
  refine lv_iconst (v := 1) hx hb d_NodeRow_clear_20 (by decide) ?_
  refine z_putf (ty := .int) hx hb hts (z_lay i_NodeRow) t_NodeRow t_NodeRow_ok n_NodeRow hown hK hw f3_w rfl 1 (by decide) (z_in k_135 rfl) (fun _ h9 => h9) rfl (by decide +kernel) rfl rfl (Nat.le_of_ble_eq_true rfl) d_NodeRow_clear_21 (fun H locs hw => ?_)
  obtain ⟨h4, hh4⟩ : ∃ x9, z_put h3 w (mr, 0) (.inr (5, [.ref ra, .int 1, .int c])) = x9 := ⟨_, rfl⟩
  have hw : z_S g A s.heap h4 H locs := by rw [← hh4]; exact hw
  have f4_w : h4 w = some ((mr, 0), .inr (5, [.ref ra, .int 1, .int c])) := by rw [← hh4]; exact z_put_eq
  have f4_ra : h4 ra = some ((mr, 1), .inl (g.2.1 4, 2000, .inr (.inr (.inr (.inr (va_up rf 0 (some nn))))))) := by rw [← hh4]; exact z_keep f3_w f3_ra (z_t2 (by omega))
  have f4_nn : h4 nn = some ((mr + 1, 0), .inr (6, [.int (-1), .int (-1), .long 0, .ref (g.2.2 0), .int 0, .int (-1), .int 0])) := by rw [← hh4]; exact (z_put_ne (Ne.symm ne_w_nn)).trans f3_nn
  have kk4 : z_KT (fun t => t = (mr, 0) ∨ t = (mr, 1) ∨ t = (mr + 1, 0)) h h4 := kk3.tr (by rw [← hh4]; exact z_KT.put f3_w (by first | decide | simp | omega))
  refine lv_aload_n hx hb d_NodeRow_clear_24 rfl (lv_at hl 0 rfl) ?_
  refine lv_iconst (v := 0) hx hb d_NodeRow_clear_25 (by decide) ?_
  refine z_putf (ty := .int) hx hb hts (z_lay i_NodeRow) t_NodeRow t_NodeRow_ok n_NodeRow hown hK hw f4_w rfl 2 (by decide) (z_in k_138 rfl) (fun _ h9 => h9) rfl (by decide +kernel) rfl rfl (Nat.le_of_ble_eq_true rfl) d_NodeRow_clear_26 (fun H locs hw => ?_)
  obtain ⟨h5, hh5⟩ : ∃ x9, z_put h4 w (mr, 0) (.inr (5, [.ref ra, .int 1, .int 0])) = x9 := ⟨_, rfl⟩
  have hw : z_S g A s.heap h5 H locs := by rw [← hh5]; exact hw
  have f5_w : h5 w = some ((mr, 0), .inr (5, [.ref ra, .int 1, .int 0])) := by rw [← hh5]; exact z_put_eq
  have f5_ra : h5 ra = some ((mr, 1), .inl (g.2.1 4, 2000, .inr (.inr (.inr (.inr (va_up rf 0 (some nn))))))) := by rw [← hh5]; exact z_keep f4_w f4_ra (z_t2 (by omega))
  have f5_nn : h5 nn = some ((mr + 1, 0), .inr (6, [.int (-1), .int (-1), .long 0, .ref (g.2.2 0), .int 0, .int (-1), .int 0])) := by rw [← hh5]; exact (z_put_ne (Ne.symm ne_w_nn)).trans f4_nn
  have kk5 : z_KT (fun t => t = (mr, 0) ∨ t = (mr, 1) ∨ t = (mr + 1, 0)) h h5 := kk4.tr (by rw [← hh5]; exact z_KT.put f4_w (by first | decide | simp | omega))
  exact z_vret hx hb hr hlocks hw ⟨_, _, _, fun _ _ => 0, rfl, fun S => NdP.zero S f5_w f5_ra (va_up_self _ _ _) f5_nn, kk5⟩ (by decide) (by decide) d_NodeRow_clear_29

set_option maxHeartbeats 4000000 in
set_option maxRecDepth 100000 in
theorem c_NodeRow_init (l : Launch) (g : z_G) (h : z_H) {mr w : Nat} (hww : h w = some ((mr, 0), .inr (5, [.null, .int 0, .int 0])))  : z_C l y_NodeRow_init prog_5_method_1_code 1 (Option.none : Option Jvm.ClassFile.FieldType) 3 62 2 2007 g [.ref w] h (fun x h1 => ∃ ra ad tx rf2 tf, x = none ∧ (∀ S : Sch, NdP g h1 mr w S rec0 ra ad tx rf2 tf) ∧ z_KT (fun t => t = (mr, 0) ∨ t = (mr, 1) ∨ t = (mr + 1, 0)) h h1) := by
  refine z_C.of (by decide) (Nat.le_of_ble_eq_true rfl) (fun pg en s m below meth cd A ls hx hb hml hr hts hown hlocks hnm hK hE hA hw hl => ?_)
  have hl : lv_has ls 1 [(0, .ref w)] := hl
  have kk0 : z_KT (fun t => t = (mr, 0) ∨ t = (mr, 1) ∨ t = (mr + 1, 0)) h h := z_KT.rf
  refine lv_aload_n hx hb d_NodeRow_init_0 rfl (lv_at hl 0 rfl) ?_
  refine W.objInit hx hb hown (hts _ (z_in k_88 rfl)) (hts _ (z_in k_26 rfl)) (hts _ (z_in k_27 rfl)) rfl (by rw [hml]; exact hl.1) rfl d_NodeRow_init_1 (Nat.le_of_ble_eq_true rfl) (Nat.le_of_ble_eq_true rfl) ?_
  refine W.eq (g2 := F0 m 4 ls []) rfl ?_
  refine lv_aload_n hx hb d_NodeRow_init_4 rfl (lv_at hl 0 rfl) ?_
  refine lv_sipush (v := 2000) hx hb d_NodeRow_init_5 (by decide) ?_
  refine z_newq (N' := 2000) hx hb hown hts (z_in k_89 rfl) hE.2.2.2.2.2.2.2.2.1 hK hw hA 4 rfl (by decide) (by rfl) (by decide) (by first | exact Nat.le_of_ble_eq_true rfl | (dsimp only; omega) | omega) (by first | exact Nat.le_of_ble_eq_true rfl | (dsimp only; omega) | omega) d_NodeRow_init_8 (mr, 1) (fun ra H n_ra hw => ?_)
  obtain ⟨h1, hh1⟩ : ∃ x9, z_put h ra (mr, 1) (.inl (g.2.1 4, 2000, .inr (.inr (.inr (.inr (fun _ => none)))))) = x9 := ⟨_, rfl⟩
  have hw : z_S g A s.heap h1 H [] := by rw [← hh1]; exact hw
  have ne_w_ra : w ≠ ra := fun z => by have z2 := hww; rw [z, n_ra] at z2; cases z2
  have f1_w : h1 w = some ((mr, 0), .inr (5, [.null, .int 0, .int 0])) := by rw [← hh1]; exact z_keepN n_ra hww
  have f1_ra : h1 ra = some ((mr, 1), .inl (g.2.1 4, 2000, .inr (.inr (.inr (.inr (fun _ => none)))))) := by rw [← hh1]; exact z_put_eq
  have kk1 : z_KT (fun t => t = (mr, 0) ∨ t = (mr, 1) ∨ t = (mr + 1, 0)) h h1 := kk0.tr (by rw [← hh1]; exact z_KT.new n_ra)
  refine z_putF (ty := .array (.object "SchemaRecords$Node")) hx hb hts (z_lay i_NodeRow) t_NodeRow t_NodeRow_ok n_NodeRow hown hK hw f1_w rfl 0 (by decide) (z_in k_134 rfl) (fun _ h9 => h9) rfl hnm rfl (by decide +kernel) rfl rfl (Nat.le_of_ble_eq_true rfl) d_NodeRow_init_11 (fun H locs hw => ?_)
  obtain ⟨h2, hh2⟩ : ∃ x9, z_put h1 w (mr, 0) (.inr (5, [.ref ra, .int 0, .int 0])) = x9 := ⟨_, rfl⟩
  have hw : z_S g A s.heap h2 H locs := by rw [← hh2]; exact hw
  have f2_w : h2 w = some ((mr, 0), .inr (5, [.ref ra, .int 0, .int 0])) := by rw [← hh2]; exact z_put_eq
  have f2_ra : h2 ra = some ((mr, 1), .inl (g.2.1 4, 2000, .inr (.inr (.inr (.inr (fun _ => none)))))) := by rw [← hh2]; exact (z_put_ne (Ne.symm ne_w_ra)).trans f1_ra
  have kk2 : z_KT (fun t => t = (mr, 0) ∨ t = (mr, 1) ∨ t = (mr + 1, 0)) h h2 := kk1.tr (by rw [← hh2]; exact z_KT.put f1_w (by first | decide | simp | omega))
  refine lv_aload_n hx hb d_NodeRow_init_14 rfl (lv_at hl 0 rfl) ?_
  refine z_callV (n := 0) (As := []) (rest := []) ⟨hx, hb, hml, hown, hts⟩ (c_NodeRow_clear l g h2 f2_w f2_ra) (z_in k_94 rfl) (z_in k_5 rfl) (z_in k_91 rfl) (z_in k_92 rfl) (z_in k_93 rfl) (by decide +kernel) ⟨by first | exact Nat.le_of_ble_eq_true rfl | (dsimp only; omega) | omega, by first | exact Nat.le_of_ble_eq_true rfl | (dsimp only; omega) | omega⟩ hK hE hw hA rfl f2_w rfl hl.1 (Nat.le_of_ble_eq_true rfl) d_NodeRow_init_15 ⟨by first | exact Nat.le_of_ble_eq_true rfl | (dsimp only; omega) | omega, by first | exact Nat.le_of_ble_eq_true rfl | (dsimp only; omega) | omega⟩ rfl (fun r9 h9 H locs hp hw => ?_)
  obtain ⟨ad, tx, rf2, tf, r8, n8, k8⟩ := hp
  subst r8
  refine W.eq (g2 := F0 m 18 ls []) rfl ?_
  exact z_vret hx hb hr hlocks hw ⟨ra, _, _, _, _, rfl, n8, kk2.tr k8⟩ (by decide) (by decide) d_NodeRow_init_18

set_option maxHeartbeats 4000000 in
set_option maxRecDepth 100000 in
theorem c_append0 (l : Launch) (g : z_G) (h : z_H) {mr w : Nat} {S : Sch} {R : Rec} {ra : Nat} {ad tx : Nat → Nat} {rf : Nat → Option Nat} {tf : Nat → Nat → Int32} {pi fi fd na r : Nat} {nu : Int64} {ki ty gr co re de rq9 : Int32} (hfd : h fd = some ((r + 1, fi), .inr (4, [.int (nI fi), .int ki, .int ty, .int gr, .ref na, .int co, .int re, .int de, .int rq9]))) (hN : NdP g h mr w S R ra ad tx rf tf) (hpa : paOK R) (hpi : pi < R.1) (hsz : R.1 < 2000) (hfi : fi < 1000) (hm : mr < 60) (hr0 : 100 ≤ r) (hki : ki = fKi (S.2 fi)) (htb9 : tbC R.2 R.1 + 0 ≤ 16000) : z_C l y_NodeRow_append prog_5_method_4_code 7 (Option.some Jvm.ClassFile.FieldType.int) 2 50 1 7 g [.ref w, .int (nI pi), .ref fd, .long nu, .ref (g.2.2 0)] h (fun x h1 => ∃ nn, x = some (.int (nI R.1)) ∧ NdP g h1 mr w S (addN R (nI fi, nI pi, nu, [])) ra (va_up ad R.1 nn) (va_up tx R.1 (g.2.2 0)) (va_up rf R.1 (some nn)) (va_up tf R.1 (fun _ => 0)) ∧ paOK (addN R (nI fi, nI pi, nu, [])) ∧ z_KT (fun t => t = (mr, 0) ∨ t = (mr, 1) ∨ t = (mr + 1, pi) ∨ t = (mr + 1, R.1)) h h1) := by
  refine z_C.of (by decide) (Nat.le_of_ble_eq_true rfl) (fun pg en s m below meth cd A ls hx hb hml hr hts hown hlocks hnm hK hE hA hw hl => ?_)
  have hl : lv_has ls 7 [(0, .ref w), (1, .int (nI pi)), (2, .ref fd), (3, .long nu), (5, .ref (g.2.2 0))] := hl
  obtain ⟨hww, hra, hnd, htx, hs1, hs2, htb⟩ := id hN
  have hpn := (hnd pi hpi).2
  have hc9 := chC_le R.2 (nI pi) R.1
  have hr9 := rtC_le S R.2 (nI pi) R.1
  have kk0 : z_KT (fun t => t = (mr, 0) ∨ t = (mr, 1) ∨ t = (mr + 1, pi) ∨ t = (mr + 1, R.1)) h h := z_KT.rf
  refine lv_aload_n hx hb d_NodeRow_append_0 rfl (lv_at hl 0 rfl) ?_
  refine lv_iload_n hx hb d_NodeRow_append_1 rfl (lv_at hl 1 rfl) ?_
  refine z_callV (n := 1) (As := [.int (nI pi)]) (rest := []) ⟨hx, hb, hml, hown, hts⟩ (c_nodeAt l g h hN hpi) (z_in k_563 rfl) (z_in k_5 rfl) (z_in k_560 rfl) (z_in k_561 rfl) (z_in k_562 rfl) (by decide +kernel) ⟨by first | exact Nat.le_of_ble_eq_true rfl | (dsimp only; omega) | omega, by first | exact Nat.le_of_ble_eq_true rfl | (dsimp only; omega) | omega⟩ hK hE hw hA rfl hww rfl hl.1 (Nat.le_of_ble_eq_true rfl) d_NodeRow_append_2 ⟨by first | exact Nat.le_of_ble_eq_true rfl | (dsimp only; omega) | omega, by first | exact Nat.le_of_ble_eq_true rfl | (dsimp only; omega) | omega⟩ rfl (fun r9 h9 H locs hp hw => ?_)
  obtain ⟨r8, h8⟩ := hp
  subst r8
  subst h8
  refine W.eq (g2 := F0 m 5 ls [.ref (ad pi)]) rfl ?_
  refine lv_astore (lv' := [(6, .ref (ad pi)), (0, .ref w), (1, .int (nI pi)), (2, .ref fd), (3, .long nu), (5, .ref (g.2.2 0))]) hx hb d_NodeRow_append_5 hl (by decide) rfl (fun ls hl => ?_)
  refine lv_aload hx hb d_NodeRow_append_7 (lv_at hl 0 rfl) ?_
  refine lv_ifnull hx hb d_NodeRow_append_9 ?_
  refine lv_aload_n hx hb d_NodeRow_append_12 rfl (lv_at hl 1 rfl) ?_
  refine z_get hx hb hts (z_lay i_NodeRow) hown hK hw hww rfl 1 (by decide) (z_in k_135 rfl) (fun _ h9 => h9) rfl d_NodeRow_append_13 ?_
  refine lv_aload_n hx hb d_NodeRow_append_16 rfl (lv_at hl 1 rfl) ?_
  refine z_get hx hb hts (z_lay i_NodeRow) hown hK hw hww rfl 0 (by decide) (z_in k_134 rfl) (fun _ h9 => h9) rfl d_NodeRow_append_17 ?_
  refine z_alen hx hb hK hw hra 4 rfl d_NodeRow_append_20 ?_
  refine lv_icmp_ge (tgt := 38) hx hb d_NodeRow_append_21 (by decide) (fun c_21 => ?_) (fun c_21 => ?_)
  · -- 21: True
    have c_21 : 2000 ≤ R.1 := (nI_leI (a := 2000) (b := R.1) (by omega) (by omega)).mp c_21
    omega
  · -- 21: False
    have c_21 : ¬ (2000 ≤ R.1) := fun z => c_21 ((nI_leI (a := 2000) (b := R.1) (by omega) (by omega)).mpr z)
    refine lv_aload_n hx hb d_NodeRow_append_24 rfl (lv_at hl 1 rfl) ?_
    refine z_get hx hb hts (z_lay i_NodeRow) hown hK hw hww rfl 2 (by decide) (z_in k_138 rfl) (fun _ h9 => h9) rfl d_NodeRow_append_25 ?_
    refine lv_aload hx hb d_NodeRow_append_28 (lv_at hl 5 rfl) ?_
    refine z_noblen hx hb hE hw d_NodeRow_append_30 ?_
    refine lv_iadd hx hb d_NodeRow_append_31 ?_
    refine z_topi (y := nI ((tbC R.2 R.1) + 0)) (nI_add (tbC R.2 R.1) 0) ?_
    refine lv_sipush (v := 16000) hx hb d_NodeRow_append_32 (by decide) ?_
    refine lv_icmp_le (tgt := 40) hx hb d_NodeRow_append_35 (by decide) (fun c_35 => ?_) (fun c_35 => ?_)
    · -- 35: True
      have c_35 : ((tbC R.2 R.1) + 0) ≤ 16000 := (nI_leI (a := (tbC R.2 R.1) + 0) (b := 16000) (by omega) (by omega)).mp c_35
      refine lv_aload hx hb d_NodeRow_append_40 (lv_at hl 0 rfl) ?_
      refine lv_dup hx hb d_NodeRow_append_42 rfl ?_
      refine z_getN hx hb hts (z_lay i_Node) hown hK hw hpn rfl 4 (by decide) hE.nest (z_inN k_115 rfl) (fun _ h9 => h9) rfl d_NodeRow_append_43 ?_
      refine lv_iconst (v := 1) hx hb d_NodeRow_append_46 (by decide) ?_
      refine lv_iadd hx hb d_NodeRow_append_47 ?_
      refine z_topi (y := nI ((chC R.2 (nI pi) R.1) + 1)) (nI_add (chC R.2 (nI pi) R.1) 1) ?_
      refine z_putN (ty := .int) hx hb hts (z_lay i_Node) t_Node t_Node_ok n_Node hown hK hw hpn rfl 4 (by decide) hE.nest (z_inN k_115 rfl) (fun _ h9 => h9) rfl (by decide +kernel) rfl rfl (Nat.le_of_ble_eq_true rfl) d_NodeRow_append_48 (fun H locs hw => ?_)
      obtain ⟨h1, hh1⟩ : ∃ x9, z_put h (ad pi) (mr + 1, pi) (.inr (6, [.int (ndFi (R.2 pi)), .int (ndPa (R.2 pi)), .long (ndNu (R.2 pi)), .ref (tx pi), .int (nI ((chC R.2 (nI pi) R.1) + 1)), .int (lfC R.2 (nI pi) R.1), .int (nI (rtC S R.2 (nI pi) R.1))])) = x9 := ⟨_, rfl⟩
      have hw : z_S g A s.heap h1 H locs := by rw [← hh1]; exact hw
      have f1_fd : h1 fd = some ((r + 1, fi), .inr (4, [.int (nI fi), .int ki, .int ty, .int gr, .ref na, .int co, .int re, .int de, .int rq9])) := by rw [← hh1]; exact z_keep hpn hfd (z_t1 (by omega))
      have f1_w : h1 w = some ((mr, 0), .inr (5, [.ref ra, .int (nI R.1), .int (nI (tbC R.2 R.1))])) := by rw [← hh1]; exact z_keep hpn hww (z_t1 (by omega))
      have f1_ra : h1 ra = some ((mr, 1), .inl (g.2.1 4, 2000, .inr (.inr (.inr (.inr rf))))) := by rw [← hh1]; exact z_keep hpn hra (z_t1 (by omega))
      have f1_ad_pi : h1 (ad pi) = some ((mr + 1, pi), .inr (6, [.int (ndFi (R.2 pi)), .int (ndPa (R.2 pi)), .long (ndNu (R.2 pi)), .ref (tx pi), .int (nI ((chC R.2 (nI pi) R.1) + 1)), .int (lfC R.2 (nI pi) R.1), .int (nI (rtC S R.2 (nI pi) R.1))])) := by rw [← hh1]; exact z_put_eq
      have kk1 : z_KT (fun t => t = (mr, 0) ∨ t = (mr, 1) ∨ t = (mr + 1, pi) ∨ t = (mr + 1, R.1)) h h1 := kk0.tr (by rw [← hh1]; exact z_KT.put hpn (by first | decide | simp | omega))
      refine lv_aload hx hb d_NodeRow_append_51 (lv_at hl 0 rfl) ?_
      refine lv_aload_n hx hb d_NodeRow_append_53 rfl (lv_at hl 3 rfl) ?_
      refine z_getN hx hb hts (z_lay i_Field) hown hK hw f1_fd rfl 0 (by decide) hE.nest (z_inN k_402 rfl) (fun _ h9 => h9) rfl d_NodeRow_append_54 ?_
      refine z_putN (ty := .int) hx hb hts (z_lay i_Node) t_Node t_Node_ok n_Node hown hK hw f1_ad_pi rfl 5 (by decide) hE.nest (z_inN k_117 rfl) (fun _ h9 => h9) rfl (by decide +kernel) rfl rfl (Nat.le_of_ble_eq_true rfl) d_NodeRow_append_57 (fun H locs hw => ?_)
      obtain ⟨h2, hh2⟩ : ∃ x9, z_put h1 (ad pi) (mr + 1, pi) (.inr (6, [.int (ndFi (R.2 pi)), .int (ndPa (R.2 pi)), .long (ndNu (R.2 pi)), .ref (tx pi), .int (nI ((chC R.2 (nI pi) R.1) + 1)), .int (nI fi), .int (nI (rtC S R.2 (nI pi) R.1))])) = x9 := ⟨_, rfl⟩
      have hw : z_S g A s.heap h2 H locs := by rw [← hh2]; exact hw
      have f2_fd : h2 fd = some ((r + 1, fi), .inr (4, [.int (nI fi), .int ki, .int ty, .int gr, .ref na, .int co, .int re, .int de, .int rq9])) := by rw [← hh2]; exact z_keep f1_ad_pi f1_fd (z_t1 (by omega))
      have f2_w : h2 w = some ((mr, 0), .inr (5, [.ref ra, .int (nI R.1), .int (nI (tbC R.2 R.1))])) := by rw [← hh2]; exact z_keep f1_ad_pi f1_w (z_t1 (by omega))
      have f2_ra : h2 ra = some ((mr, 1), .inl (g.2.1 4, 2000, .inr (.inr (.inr (.inr rf))))) := by rw [← hh2]; exact z_keep f1_ad_pi f1_ra (z_t1 (by omega))
      have f2_ad_pi : h2 (ad pi) = some ((mr + 1, pi), .inr (6, [.int (ndFi (R.2 pi)), .int (ndPa (R.2 pi)), .long (ndNu (R.2 pi)), .ref (tx pi), .int (nI ((chC R.2 (nI pi) R.1) + 1)), .int (nI fi), .int (nI (rtC S R.2 (nI pi) R.1))])) := by rw [← hh2]; exact z_put_eq
      have kk2 : z_KT (fun t => t = (mr, 0) ∨ t = (mr, 1) ∨ t = (mr + 1, pi) ∨ t = (mr + 1, R.1)) h h2 := kk1.tr (by rw [← hh2]; exact z_KT.put f1_ad_pi (by first | decide | simp | omega))
      refine lv_aload_n hx hb d_NodeRow_append_60 rfl (lv_at hl 3 rfl) ?_
      refine z_getN hx hb hts (z_lay i_Field) hown hK hw f2_fd rfl 1 (by decide) hE.nest (z_inN k_407 rfl) (fun _ h9 => h9) rfl d_NodeRow_append_61 ?_
      refine lv_if_ne (tgt := 78) hx hb d_NodeRow_append_64 (by decide) (fun c_64 => ?_) (fun c_64 => ?_)
      · -- 64: True
        refine lv_aload_n hx hb d_NodeRow_append_78 rfl (lv_at hl 1 rfl) ?_
        refine z_get hx hb hts (z_lay i_NodeRow) hown hK hw f2_w rfl 0 (by decide) (z_in k_134 rfl) (fun _ h9 => h9) rfl d_NodeRow_append_79 ?_
        refine lv_aload_n hx hb d_NodeRow_append_82 rfl (lv_at hl 1 rfl) ?_
        refine z_get hx hb hts (z_lay i_NodeRow) hown hK hw f2_w rfl 1 (by decide) (z_in k_135 rfl) (fun _ h9 => h9) rfl d_NodeRow_append_83 ?_
        refine z_new (ci := 6) (fs := [.int 0, .int 0, .long 0, .null, .int 0, .int 0, .int 0]) hx hb hts (z_lay i_Node) t_Node t_Node_ok hown (z_in k_89 rfl) (z_in k_95 rfl) (z_in k_6 rfl) hK hw hA rfl (fun j hj => by rcases (show j = 0 ∨ j = 1 ∨ j = 2 ∨ j = 3 ∨ j = 4 ∨ j = 5 ∨ j = 6 by omega) with rfl | rfl | rfl | rfl | rfl | rfl | rfl <;> rfl) (by first | exact Nat.le_of_ble_eq_true rfl | (dsimp only; omega) | omega) (by first | exact Nat.le_of_ble_eq_true rfl | (dsimp only; omega) | omega) d_NodeRow_append_86 (mr + 1, R.1) (fun nn H n_nn hw => ?_)
        obtain ⟨h3, hh3⟩ : ∃ x9, z_put h2 nn (mr + 1, R.1) (.inr (6, [.int 0, .int 0, .long 0, .null, .int 0, .int 0, .int 0])) = x9 := ⟨_, rfl⟩
        have hw : z_S g A s.heap h3 H locs := by rw [← hh3]; exact hw
        have ne_fd_nn : fd ≠ nn := fun z => by have z2 := f2_fd; rw [z, n_nn] at z2; cases z2
        have ne_w_nn : w ≠ nn := fun z => by have z2 := f2_w; rw [z, n_nn] at z2; cases z2
        have ne_ra_nn : ra ≠ nn := fun z => by have z2 := f2_ra; rw [z, n_nn] at z2; cases z2
        have ne_ad_pi_nn : (ad pi) ≠ nn := fun z => by have z2 := f2_ad_pi; rw [z, n_nn] at z2; cases z2
        have f3_fd : h3 fd = some ((r + 1, fi), .inr (4, [.int (nI fi), .int ki, .int ty, .int gr, .ref na, .int co, .int re, .int de, .int rq9])) := by rw [← hh3]; exact z_keepN n_nn f2_fd
        have f3_w : h3 w = some ((mr, 0), .inr (5, [.ref ra, .int (nI R.1), .int (nI (tbC R.2 R.1))])) := by rw [← hh3]; exact z_keepN n_nn f2_w
        have f3_ra : h3 ra = some ((mr, 1), .inl (g.2.1 4, 2000, .inr (.inr (.inr (.inr rf))))) := by rw [← hh3]; exact z_keepN n_nn f2_ra
        have f3_ad_pi : h3 (ad pi) = some ((mr + 1, pi), .inr (6, [.int (ndFi (R.2 pi)), .int (ndPa (R.2 pi)), .long (ndNu (R.2 pi)), .ref (tx pi), .int (nI ((chC R.2 (nI pi) R.1) + 1)), .int (nI fi), .int (nI (rtC S R.2 (nI pi) R.1))])) := by rw [← hh3]; exact z_keepN n_nn f2_ad_pi
        have f3_nn : h3 nn = some ((mr + 1, R.1), .inr (6, [.int 0, .int 0, .long 0, .null, .int 0, .int 0, .int 0])) := by rw [← hh3]; exact z_put_eq
        have kk3 : z_KT (fun t => t = (mr, 0) ∨ t = (mr, 1) ∨ t = (mr + 1, pi) ∨ t = (mr + 1, R.1)) h h3 := kk2.tr (by rw [← hh3]; exact z_KT.new n_nn)
        refine lv_dup hx hb d_NodeRow_append_89 rfl ?_
        refine lv_aload_n hx hb d_NodeRow_append_90 rfl (lv_at hl 3 rfl) ?_
        refine z_getN hx hb hts (z_lay i_Field) hown hK hw f3_fd rfl 0 (by decide) hE.nest (z_inN k_402 rfl) (fun _ h9 => h9) rfl d_NodeRow_append_91 ?_
        refine lv_iload_n hx hb d_NodeRow_append_94 rfl (lv_at hl 2 rfl) ?_
        refine lv_lload_n hx hb d_NodeRow_append_95 rfl (lv_at hl 4 rfl) ?_
        refine lv_aload hx hb d_NodeRow_append_96 (lv_at hl 5 rfl) ?_
        refine z_callI (n := 4) (As := [.int (nI fi), .int (nI pi), .long nu, .ref (g.2.2 0)]) (rest := [.ref nn, .int (nI R.1), .ref ra]) ⟨hx, hb, hml, hown, hts⟩ (c_Node_init l g h3 f3_nn) (z_in k_100 rfl) (z_in k_6 rfl) (z_in k_98 rfl) (z_in k_99 rfl) rfl (by decide +kernel) ⟨by first | exact Nat.le_of_ble_eq_true rfl | (dsimp only; omega) | omega, by first | exact Nat.le_of_ble_eq_true rfl | (dsimp only; omega) | omega⟩ hK hE hw hA rfl hl.1 (Nat.le_of_ble_eq_true rfl) d_NodeRow_append_98 ⟨by first | exact Nat.le_of_ble_eq_true rfl | (dsimp only; omega) | omega, by first | exact Nat.le_of_ble_eq_true rfl | (dsimp only; omega) | omega⟩ rfl (fun r9 h9 H locs hp hw => ?_)
        obtain ⟨r8, hh4⟩ := hp
        subst r8
        obtain ⟨h4, e8⟩ : ∃ x9, x9 = h9 := ⟨_, rfl⟩
        subst e8
        have f4_fd : h4 fd = some ((r + 1, fi), .inr (4, [.int (nI fi), .int ki, .int ty, .int gr, .ref na, .int co, .int re, .int de, .int rq9])) := by rw [← hh4]; exact (z_put_ne ne_fd_nn).trans f3_fd
        have f4_w : h4 w = some ((mr, 0), .inr (5, [.ref ra, .int (nI R.1), .int (nI (tbC R.2 R.1))])) := by rw [← hh4]; exact (z_put_ne ne_w_nn).trans f3_w
        have f4_ra : h4 ra = some ((mr, 1), .inl (g.2.1 4, 2000, .inr (.inr (.inr (.inr rf))))) := by rw [← hh4]; exact (z_put_ne ne_ra_nn).trans f3_ra
        have f4_ad_pi : h4 (ad pi) = some ((mr + 1, pi), .inr (6, [.int (ndFi (R.2 pi)), .int (ndPa (R.2 pi)), .long (ndNu (R.2 pi)), .ref (tx pi), .int (nI ((chC R.2 (nI pi) R.1) + 1)), .int (nI fi), .int (nI (rtC S R.2 (nI pi) R.1))])) := by rw [← hh4]; exact (z_put_ne ne_ad_pi_nn).trans f3_ad_pi
        have f4_nn : h4 nn = some ((mr + 1, R.1), .inr (6, [.int (nI fi), .int (nI pi), .long nu, .ref (g.2.2 0), .int 0, .int (-1), .int 0])) := by rw [← hh4]; exact z_put_eq
        have kk4 : z_KT (fun t => t = (mr, 0) ∨ t = (mr, 1) ∨ t = (mr + 1, pi) ∨ t = (mr + 1, R.1)) h h4 := kk3.tr (by rw [← hh4]; exact z_KT.put f3_nn (by first | decide | simp | omega))
        refine W.eq (g2 := F0 m 101 ls [.ref nn, .int (nI R.1), .ref ra]) rfl ?_
        refine z_astq hx hb hK hw f4_ra 4 rfl f4_nn rfl (vp_in_nI (by omega) (by omega)) d_NodeRow_append_101 (fun H locs hw => ?_)
        rw [nI_clamp (by omega)] at hw
        obtain ⟨h5, hh5⟩ : ∃ x9, z_put h4 ra (mr, 1) (.inl (g.2.1 4, 2000, .inr (.inr (.inr (.inr (va_up rf R.1 (some nn))))))) = x9 := ⟨_, rfl⟩
        have hw : z_S g A s.heap h5 H locs := by rw [← hh5]; exact hw
        have f5_fd : h5 fd = some ((r + 1, fi), .inr (4, [.int (nI fi), .int ki, .int ty, .int gr, .ref na, .int co, .int re, .int de, .int rq9])) := by rw [← hh5]; exact z_keep f4_ra f4_fd (z_t1 (by omega))
        have f5_w : h5 w = some ((mr, 0), .inr (5, [.ref ra, .int (nI R.1), .int (nI (tbC R.2 R.1))])) := by rw [← hh5]; exact z_keep f4_ra f4_w (z_t2 (by omega))
        have f5_ra : h5 ra = some ((mr, 1), .inl (g.2.1 4, 2000, .inr (.inr (.inr (.inr (va_up rf R.1 (some nn))))))) := by rw [← hh5]; exact z_put_eq
        have f5_ad_pi : h5 (ad pi) = some ((mr + 1, pi), .inr (6, [.int (ndFi (R.2 pi)), .int (ndPa (R.2 pi)), .long (ndNu (R.2 pi)), .ref (tx pi), .int (nI ((chC R.2 (nI pi) R.1) + 1)), .int (nI fi), .int (nI (rtC S R.2 (nI pi) R.1))])) := by rw [← hh5]; exact z_keep f4_ra f4_ad_pi (z_t1 (by omega))
        have f5_nn : h5 nn = some ((mr + 1, R.1), .inr (6, [.int (nI fi), .int (nI pi), .long nu, .ref (g.2.2 0), .int 0, .int (-1), .int 0])) := by rw [← hh5]; exact (z_put_ne (Ne.symm ne_ra_nn)).trans f4_nn
        have kk5 : z_KT (fun t => t = (mr, 0) ∨ t = (mr, 1) ∨ t = (mr + 1, pi) ∨ t = (mr + 1, R.1)) h h5 := kk4.tr (by rw [← hh5]; exact z_KT.put f4_ra (by first | decide | simp | omega))
        refine lv_aload_n hx hb d_NodeRow_append_102 rfl (lv_at hl 1 rfl) ?_
        refine lv_dup hx hb d_NodeRow_append_103 rfl ?_
        refine z_get hx hb hts (z_lay i_NodeRow) hown hK hw f5_w rfl 2 (by decide) (z_in k_138 rfl) (fun _ h9 => h9) rfl d_NodeRow_append_104 ?_
        refine lv_aload hx hb d_NodeRow_append_107 (lv_at hl 5 rfl) ?_
        refine z_noblen hx hb hE hw d_NodeRow_append_109 ?_
        refine lv_iadd hx hb d_NodeRow_append_110 ?_
        refine z_topi (y := nI ((tbC R.2 R.1) + 0)) (nI_add (tbC R.2 R.1) 0) ?_
        refine z_putf (ty := .int) hx hb hts (z_lay i_NodeRow) t_NodeRow t_NodeRow_ok n_NodeRow hown hK hw f5_w rfl 2 (by decide) (z_in k_138 rfl) (fun _ h9 => h9) rfl (by decide +kernel) rfl rfl (Nat.le_of_ble_eq_true rfl) d_NodeRow_append_111 (fun H locs hw => ?_)
        obtain ⟨h6, hh6⟩ : ∃ x9, z_put h5 w (mr, 0) (.inr (5, [.ref ra, .int (nI R.1), .int (nI ((tbC R.2 R.1) + 0))])) = x9 := ⟨_, rfl⟩
        have hw : z_S g A s.heap h6 H locs := by rw [← hh6]; exact hw
        have f6_fd : h6 fd = some ((r + 1, fi), .inr (4, [.int (nI fi), .int ki, .int ty, .int gr, .ref na, .int co, .int re, .int de, .int rq9])) := by rw [← hh6]; exact z_keep f5_w f5_fd (z_t1 (by omega))
        have f6_w : h6 w = some ((mr, 0), .inr (5, [.ref ra, .int (nI R.1), .int (nI ((tbC R.2 R.1) + 0))])) := by rw [← hh6]; exact z_put_eq
        have f6_ra : h6 ra = some ((mr, 1), .inl (g.2.1 4, 2000, .inr (.inr (.inr (.inr (va_up rf R.1 (some nn))))))) := by rw [← hh6]; exact z_keep f5_w f5_ra (z_t2 (by omega))
        have f6_ad_pi : h6 (ad pi) = some ((mr + 1, pi), .inr (6, [.int (ndFi (R.2 pi)), .int (ndPa (R.2 pi)), .long (ndNu (R.2 pi)), .ref (tx pi), .int (nI ((chC R.2 (nI pi) R.1) + 1)), .int (nI fi), .int (nI (rtC S R.2 (nI pi) R.1))])) := by rw [← hh6]; exact z_keep f5_w f5_ad_pi (z_t1 (by omega))
        have f6_nn : h6 nn = some ((mr + 1, R.1), .inr (6, [.int (nI fi), .int (nI pi), .long nu, .ref (g.2.2 0), .int 0, .int (-1), .int 0])) := by rw [← hh6]; exact (z_put_ne (Ne.symm ne_w_nn)).trans f5_nn
        have kk6 : z_KT (fun t => t = (mr, 0) ∨ t = (mr, 1) ∨ t = (mr + 1, pi) ∨ t = (mr + 1, R.1)) h h6 := kk5.tr (by rw [← hh6]; exact z_KT.put f5_w (by first | decide | simp | omega))
        refine lv_aload_n hx hb d_NodeRow_append_114 rfl (lv_at hl 1 rfl) ?_
        refine lv_dup hx hb d_NodeRow_append_115 rfl ?_
        refine z_get hx hb hts (z_lay i_NodeRow) hown hK hw f6_w rfl 1 (by decide) (z_in k_135 rfl) (fun _ h9 => h9) rfl d_NodeRow_append_116 ?_
        refine lv_iconst (v := 1) hx hb d_NodeRow_append_119 (by decide) ?_
        refine lv_iadd hx hb d_NodeRow_append_120 ?_
        refine z_topi (y := nI (R.1 + 1)) (nI_add R.1 1) ?_
        refine z_putf (ty := .int) hx hb hts (z_lay i_NodeRow) t_NodeRow t_NodeRow_ok n_NodeRow hown hK hw f6_w rfl 1 (by decide) (z_in k_135 rfl) (fun _ h9 => h9) rfl (by decide +kernel) rfl rfl (Nat.le_of_ble_eq_true rfl) d_NodeRow_append_121 (fun H locs hw => ?_)
        obtain ⟨h7, hh7⟩ : ∃ x9, z_put h6 w (mr, 0) (.inr (5, [.ref ra, .int (nI (R.1 + 1)), .int (nI ((tbC R.2 R.1) + 0))])) = x9 := ⟨_, rfl⟩
        have hw : z_S g A s.heap h7 H locs := by rw [← hh7]; exact hw
        have f7_fd : h7 fd = some ((r + 1, fi), .inr (4, [.int (nI fi), .int ki, .int ty, .int gr, .ref na, .int co, .int re, .int de, .int rq9])) := by rw [← hh7]; exact z_keep f6_w f6_fd (z_t1 (by omega))
        have f7_w : h7 w = some ((mr, 0), .inr (5, [.ref ra, .int (nI (R.1 + 1)), .int (nI ((tbC R.2 R.1) + 0))])) := by rw [← hh7]; exact z_put_eq
        have f7_ra : h7 ra = some ((mr, 1), .inl (g.2.1 4, 2000, .inr (.inr (.inr (.inr (va_up rf R.1 (some nn))))))) := by rw [← hh7]; exact z_keep f6_w f6_ra (z_t2 (by omega))
        have f7_ad_pi : h7 (ad pi) = some ((mr + 1, pi), .inr (6, [.int (ndFi (R.2 pi)), .int (ndPa (R.2 pi)), .long (ndNu (R.2 pi)), .ref (tx pi), .int (nI ((chC R.2 (nI pi) R.1) + 1)), .int (nI fi), .int (nI (rtC S R.2 (nI pi) R.1))])) := by rw [← hh7]; exact z_keep f6_w f6_ad_pi (z_t1 (by omega))
        have f7_nn : h7 nn = some ((mr + 1, R.1), .inr (6, [.int (nI fi), .int (nI pi), .long nu, .ref (g.2.2 0), .int 0, .int (-1), .int 0])) := by rw [← hh7]; exact (z_put_ne (Ne.symm ne_w_nn)).trans f6_nn
        have kk7 : z_KT (fun t => t = (mr, 0) ∨ t = (mr, 1) ∨ t = (mr + 1, pi) ∨ t = (mr + 1, R.1)) h h7 := kk6.tr (by rw [← hh7]; exact z_KT.put f6_w (by first | decide | simp | omega))
        refine lv_aload_n hx hb d_NodeRow_append_124 rfl (lv_at hl 1 rfl) ?_
        refine z_get hx hb hts (z_lay i_NodeRow) hown hK hw f7_w rfl 1 (by decide) (z_in k_135 rfl) (fun _ h9 => h9) rfl d_NodeRow_append_125 ?_
        refine lv_iconst (v := 1) hx hb d_NodeRow_append_128 (by decide) ?_
        refine lv_isub hx hb d_NodeRow_append_129 ?_
        refine z_topi (y := nI ((R.1 + 1) - 1)) (pk_sub (a := R.1 + 1) (b := 1) (by omega)) ?_
        exact z_iret hx hb hr hlocks hw (by
    have z := hN.add (l := []) (nu := nu) (fq := fun _ => 0) hpa hpi hsz (by omega) (by simpa using htb9) (by simpa using f7_w) f7_ra f7_nn (by rw [← hki, if_neg c_64]; exact f7_ad_pi) (fun i hi e => (kk7 _ _ _ (hnd i hi).2 (by simp; omega)).trans (hnd i hi).2.symm) (fun i hi => (htx i hi).kt kk7 (by simp)) (Or.inl ⟨rfl, rfl⟩)
    exact ⟨nn, rfl, z.1, z.2, kk7⟩) (by decide) (by decide) d_NodeRow_append_130
      · -- 64: False
        refine lv_aload hx hb d_NodeRow_append_67 (lv_at hl 0 rfl) ?_
        refine lv_dup hx hb d_NodeRow_append_69 rfl ?_
        refine z_getN hx hb hts (z_lay i_Node) hown hK hw f2_ad_pi rfl 6 (by decide) hE.nest (z_inN k_118 rfl) (fun _ h9 => h9) rfl d_NodeRow_append_70 ?_
        refine lv_iconst (v := 1) hx hb d_NodeRow_append_73 (by decide) ?_
        refine lv_iadd hx hb d_NodeRow_append_74 ?_
        refine z_topi (y := nI ((rtC S R.2 (nI pi) R.1) + 1)) (nI_add (rtC S R.2 (nI pi) R.1) 1) ?_
        refine z_putN (ty := .int) hx hb hts (z_lay i_Node) t_Node t_Node_ok n_Node hown hK hw f2_ad_pi rfl 6 (by decide) hE.nest (z_inN k_118 rfl) (fun _ h9 => h9) rfl (by decide +kernel) rfl rfl (Nat.le_of_ble_eq_true rfl) d_NodeRow_append_75 (fun H locs hw => ?_)
        obtain ⟨h8, hh8⟩ : ∃ x9, z_put h2 (ad pi) (mr + 1, pi) (.inr (6, [.int (ndFi (R.2 pi)), .int (ndPa (R.2 pi)), .long (ndNu (R.2 pi)), .ref (tx pi), .int (nI ((chC R.2 (nI pi) R.1) + 1)), .int (nI fi), .int (nI ((rtC S R.2 (nI pi) R.1) + 1))])) = x9 := ⟨_, rfl⟩
        have hw : z_S g A s.heap h8 H locs := by rw [← hh8]; exact hw
        have f8_fd : h8 fd = some ((r + 1, fi), .inr (4, [.int (nI fi), .int ki, .int ty, .int gr, .ref na, .int co, .int re, .int de, .int rq9])) := by rw [← hh8]; exact z_keep f2_ad_pi f2_fd (z_t1 (by omega))
        have f8_w : h8 w = some ((mr, 0), .inr (5, [.ref ra, .int (nI R.1), .int (nI (tbC R.2 R.1))])) := by rw [← hh8]; exact z_keep f2_ad_pi f2_w (z_t1 (by omega))
        have f8_ra : h8 ra = some ((mr, 1), .inl (g.2.1 4, 2000, .inr (.inr (.inr (.inr rf))))) := by rw [← hh8]; exact z_keep f2_ad_pi f2_ra (z_t1 (by omega))
        have f8_ad_pi : h8 (ad pi) = some ((mr + 1, pi), .inr (6, [.int (ndFi (R.2 pi)), .int (ndPa (R.2 pi)), .long (ndNu (R.2 pi)), .ref (tx pi), .int (nI ((chC R.2 (nI pi) R.1) + 1)), .int (nI fi), .int (nI ((rtC S R.2 (nI pi) R.1) + 1))])) := by rw [← hh8]; exact z_put_eq
        have kk8 : z_KT (fun t => t = (mr, 0) ∨ t = (mr, 1) ∨ t = (mr + 1, pi) ∨ t = (mr + 1, R.1)) h h8 := kk2.tr (by rw [← hh8]; exact z_KT.put f2_ad_pi (by first | decide | simp | omega))
        refine lv_aload_n hx hb d_NodeRow_append_78 rfl (lv_at hl 1 rfl) ?_
        refine z_get hx hb hts (z_lay i_NodeRow) hown hK hw f8_w rfl 0 (by decide) (z_in k_134 rfl) (fun _ h9 => h9) rfl d_NodeRow_append_79 ?_
        refine lv_aload_n hx hb d_NodeRow_append_82 rfl (lv_at hl 1 rfl) ?_
        refine z_get hx hb hts (z_lay i_NodeRow) hown hK hw f8_w rfl 1 (by decide) (z_in k_135 rfl) (fun _ h9 => h9) rfl d_NodeRow_append_83 ?_
        refine z_new (ci := 6) (fs := [.int 0, .int 0, .long 0, .null, .int 0, .int 0, .int 0]) hx hb hts (z_lay i_Node) t_Node t_Node_ok hown (z_in k_89 rfl) (z_in k_95 rfl) (z_in k_6 rfl) hK hw hA rfl (fun j hj => by rcases (show j = 0 ∨ j = 1 ∨ j = 2 ∨ j = 3 ∨ j = 4 ∨ j = 5 ∨ j = 6 by omega) with rfl | rfl | rfl | rfl | rfl | rfl | rfl <;> rfl) (by first | exact Nat.le_of_ble_eq_true rfl | (dsimp only; omega) | omega) (by first | exact Nat.le_of_ble_eq_true rfl | (dsimp only; omega) | omega) d_NodeRow_append_86 (mr + 1, R.1) (fun nn H n_nn hw => ?_)
        obtain ⟨h9, hh9⟩ : ∃ x9, z_put h8 nn (mr + 1, R.1) (.inr (6, [.int 0, .int 0, .long 0, .null, .int 0, .int 0, .int 0])) = x9 := ⟨_, rfl⟩
        have hw : z_S g A s.heap h9 H locs := by rw [← hh9]; exact hw
        have ne_fd_nn : fd ≠ nn := fun z => by have z2 := f8_fd; rw [z, n_nn] at z2; cases z2
        have ne_w_nn : w ≠ nn := fun z => by have z2 := f8_w; rw [z, n_nn] at z2; cases z2
        have ne_ra_nn : ra ≠ nn := fun z => by have z2 := f8_ra; rw [z, n_nn] at z2; cases z2
        have ne_ad_pi_nn : (ad pi) ≠ nn := fun z => by have z2 := f8_ad_pi; rw [z, n_nn] at z2; cases z2
        have f9_fd : h9 fd = some ((r + 1, fi), .inr (4, [.int (nI fi), .int ki, .int ty, .int gr, .ref na, .int co, .int re, .int de, .int rq9])) := by rw [← hh9]; exact z_keepN n_nn f8_fd
        have f9_w : h9 w = some ((mr, 0), .inr (5, [.ref ra, .int (nI R.1), .int (nI (tbC R.2 R.1))])) := by rw [← hh9]; exact z_keepN n_nn f8_w
        have f9_ra : h9 ra = some ((mr, 1), .inl (g.2.1 4, 2000, .inr (.inr (.inr (.inr rf))))) := by rw [← hh9]; exact z_keepN n_nn f8_ra
        have f9_ad_pi : h9 (ad pi) = some ((mr + 1, pi), .inr (6, [.int (ndFi (R.2 pi)), .int (ndPa (R.2 pi)), .long (ndNu (R.2 pi)), .ref (tx pi), .int (nI ((chC R.2 (nI pi) R.1) + 1)), .int (nI fi), .int (nI ((rtC S R.2 (nI pi) R.1) + 1))])) := by rw [← hh9]; exact z_keepN n_nn f8_ad_pi
        have f9_nn : h9 nn = some ((mr + 1, R.1), .inr (6, [.int 0, .int 0, .long 0, .null, .int 0, .int 0, .int 0])) := by rw [← hh9]; exact z_put_eq
        have kk9 : z_KT (fun t => t = (mr, 0) ∨ t = (mr, 1) ∨ t = (mr + 1, pi) ∨ t = (mr + 1, R.1)) h h9 := kk8.tr (by rw [← hh9]; exact z_KT.new n_nn)
        refine lv_dup hx hb d_NodeRow_append_89 rfl ?_
        refine lv_aload_n hx hb d_NodeRow_append_90 rfl (lv_at hl 3 rfl) ?_
        refine z_getN hx hb hts (z_lay i_Field) hown hK hw f9_fd rfl 0 (by decide) hE.nest (z_inN k_402 rfl) (fun _ h9 => h9) rfl d_NodeRow_append_91 ?_
        refine lv_iload_n hx hb d_NodeRow_append_94 rfl (lv_at hl 2 rfl) ?_
        refine lv_lload_n hx hb d_NodeRow_append_95 rfl (lv_at hl 4 rfl) ?_
        refine lv_aload hx hb d_NodeRow_append_96 (lv_at hl 5 rfl) ?_
        refine z_callI (n := 4) (As := [.int (nI fi), .int (nI pi), .long nu, .ref (g.2.2 0)]) (rest := [.ref nn, .int (nI R.1), .ref ra]) ⟨hx, hb, hml, hown, hts⟩ (c_Node_init l g h9 f9_nn) (z_in k_100 rfl) (z_in k_6 rfl) (z_in k_98 rfl) (z_in k_99 rfl) rfl (by decide +kernel) ⟨by first | exact Nat.le_of_ble_eq_true rfl | (dsimp only; omega) | omega, by first | exact Nat.le_of_ble_eq_true rfl | (dsimp only; omega) | omega⟩ hK hE hw hA rfl hl.1 (Nat.le_of_ble_eq_true rfl) d_NodeRow_append_98 ⟨by first | exact Nat.le_of_ble_eq_true rfl | (dsimp only; omega) | omega, by first | exact Nat.le_of_ble_eq_true rfl | (dsimp only; omega) | omega⟩ rfl (fun r9 h9 H locs hp hw => ?_)
        obtain ⟨r8, hh10⟩ := hp
        subst r8
        obtain ⟨h10, e8⟩ : ∃ x9, x9 = h9 := ⟨_, rfl⟩
        subst e8
        have f10_fd : h10 fd = some ((r + 1, fi), .inr (4, [.int (nI fi), .int ki, .int ty, .int gr, .ref na, .int co, .int re, .int de, .int rq9])) := by rw [← hh10]; exact (z_put_ne ne_fd_nn).trans f9_fd
        have f10_w : h10 w = some ((mr, 0), .inr (5, [.ref ra, .int (nI R.1), .int (nI (tbC R.2 R.1))])) := by rw [← hh10]; exact (z_put_ne ne_w_nn).trans f9_w
        have f10_ra : h10 ra = some ((mr, 1), .inl (g.2.1 4, 2000, .inr (.inr (.inr (.inr rf))))) := by rw [← hh10]; exact (z_put_ne ne_ra_nn).trans f9_ra
        have f10_ad_pi : h10 (ad pi) = some ((mr + 1, pi), .inr (6, [.int (ndFi (R.2 pi)), .int (ndPa (R.2 pi)), .long (ndNu (R.2 pi)), .ref (tx pi), .int (nI ((chC R.2 (nI pi) R.1) + 1)), .int (nI fi), .int (nI ((rtC S R.2 (nI pi) R.1) + 1))])) := by rw [← hh10]; exact (z_put_ne ne_ad_pi_nn).trans f9_ad_pi
        have f10_nn : h10 nn = some ((mr + 1, R.1), .inr (6, [.int (nI fi), .int (nI pi), .long nu, .ref (g.2.2 0), .int 0, .int (-1), .int 0])) := by rw [← hh10]; exact z_put_eq
        have kk10 : z_KT (fun t => t = (mr, 0) ∨ t = (mr, 1) ∨ t = (mr + 1, pi) ∨ t = (mr + 1, R.1)) h h10 := kk9.tr (by rw [← hh10]; exact z_KT.put f9_nn (by first | decide | simp | omega))
        refine W.eq (g2 := F0 m 101 ls [.ref nn, .int (nI R.1), .ref ra]) rfl ?_
        refine z_astq hx hb hK hw f10_ra 4 rfl f10_nn rfl (vp_in_nI (by omega) (by omega)) d_NodeRow_append_101 (fun H locs hw => ?_)
        rw [nI_clamp (by omega)] at hw
        obtain ⟨h11, hh11⟩ : ∃ x9, z_put h10 ra (mr, 1) (.inl (g.2.1 4, 2000, .inr (.inr (.inr (.inr (va_up rf R.1 (some nn))))))) = x9 := ⟨_, rfl⟩
        have hw : z_S g A s.heap h11 H locs := by rw [← hh11]; exact hw
        have f11_fd : h11 fd = some ((r + 1, fi), .inr (4, [.int (nI fi), .int ki, .int ty, .int gr, .ref na, .int co, .int re, .int de, .int rq9])) := by rw [← hh11]; exact z_keep f10_ra f10_fd (z_t1 (by omega))
        have f11_w : h11 w = some ((mr, 0), .inr (5, [.ref ra, .int (nI R.1), .int (nI (tbC R.2 R.1))])) := by rw [← hh11]; exact z_keep f10_ra f10_w (z_t2 (by omega))
        have f11_ra : h11 ra = some ((mr, 1), .inl (g.2.1 4, 2000, .inr (.inr (.inr (.inr (va_up rf R.1 (some nn))))))) := by rw [← hh11]; exact z_put_eq
        have f11_ad_pi : h11 (ad pi) = some ((mr + 1, pi), .inr (6, [.int (ndFi (R.2 pi)), .int (ndPa (R.2 pi)), .long (ndNu (R.2 pi)), .ref (tx pi), .int (nI ((chC R.2 (nI pi) R.1) + 1)), .int (nI fi), .int (nI ((rtC S R.2 (nI pi) R.1) + 1))])) := by rw [← hh11]; exact z_keep f10_ra f10_ad_pi (z_t1 (by omega))
        have f11_nn : h11 nn = some ((mr + 1, R.1), .inr (6, [.int (nI fi), .int (nI pi), .long nu, .ref (g.2.2 0), .int 0, .int (-1), .int 0])) := by rw [← hh11]; exact (z_put_ne (Ne.symm ne_ra_nn)).trans f10_nn
        have kk11 : z_KT (fun t => t = (mr, 0) ∨ t = (mr, 1) ∨ t = (mr + 1, pi) ∨ t = (mr + 1, R.1)) h h11 := kk10.tr (by rw [← hh11]; exact z_KT.put f10_ra (by first | decide | simp | omega))
        refine lv_aload_n hx hb d_NodeRow_append_102 rfl (lv_at hl 1 rfl) ?_
        refine lv_dup hx hb d_NodeRow_append_103 rfl ?_
        refine z_get hx hb hts (z_lay i_NodeRow) hown hK hw f11_w rfl 2 (by decide) (z_in k_138 rfl) (fun _ h9 => h9) rfl d_NodeRow_append_104 ?_
        refine lv_aload hx hb d_NodeRow_append_107 (lv_at hl 5 rfl) ?_
        refine z_noblen hx hb hE hw d_NodeRow_append_109 ?_
        refine lv_iadd hx hb d_NodeRow_append_110 ?_
        refine z_topi (y := nI ((tbC R.2 R.1) + 0)) (nI_add (tbC R.2 R.1) 0) ?_
        refine z_putf (ty := .int) hx hb hts (z_lay i_NodeRow) t_NodeRow t_NodeRow_ok n_NodeRow hown hK hw f11_w rfl 2 (by decide) (z_in k_138 rfl) (fun _ h9 => h9) rfl (by decide +kernel) rfl rfl (Nat.le_of_ble_eq_true rfl) d_NodeRow_append_111 (fun H locs hw => ?_)
        obtain ⟨h12, hh12⟩ : ∃ x9, z_put h11 w (mr, 0) (.inr (5, [.ref ra, .int (nI R.1), .int (nI ((tbC R.2 R.1) + 0))])) = x9 := ⟨_, rfl⟩
        have hw : z_S g A s.heap h12 H locs := by rw [← hh12]; exact hw
        have f12_fd : h12 fd = some ((r + 1, fi), .inr (4, [.int (nI fi), .int ki, .int ty, .int gr, .ref na, .int co, .int re, .int de, .int rq9])) := by rw [← hh12]; exact z_keep f11_w f11_fd (z_t1 (by omega))
        have f12_w : h12 w = some ((mr, 0), .inr (5, [.ref ra, .int (nI R.1), .int (nI ((tbC R.2 R.1) + 0))])) := by rw [← hh12]; exact z_put_eq
        have f12_ra : h12 ra = some ((mr, 1), .inl (g.2.1 4, 2000, .inr (.inr (.inr (.inr (va_up rf R.1 (some nn))))))) := by rw [← hh12]; exact z_keep f11_w f11_ra (z_t2 (by omega))
        have f12_ad_pi : h12 (ad pi) = some ((mr + 1, pi), .inr (6, [.int (ndFi (R.2 pi)), .int (ndPa (R.2 pi)), .long (ndNu (R.2 pi)), .ref (tx pi), .int (nI ((chC R.2 (nI pi) R.1) + 1)), .int (nI fi), .int (nI ((rtC S R.2 (nI pi) R.1) + 1))])) := by rw [← hh12]; exact z_keep f11_w f11_ad_pi (z_t1 (by omega))
        have f12_nn : h12 nn = some ((mr + 1, R.1), .inr (6, [.int (nI fi), .int (nI pi), .long nu, .ref (g.2.2 0), .int 0, .int (-1), .int 0])) := by rw [← hh12]; exact (z_put_ne (Ne.symm ne_w_nn)).trans f11_nn
        have kk12 : z_KT (fun t => t = (mr, 0) ∨ t = (mr, 1) ∨ t = (mr + 1, pi) ∨ t = (mr + 1, R.1)) h h12 := kk11.tr (by rw [← hh12]; exact z_KT.put f11_w (by first | decide | simp | omega))
        refine lv_aload_n hx hb d_NodeRow_append_114 rfl (lv_at hl 1 rfl) ?_
        refine lv_dup hx hb d_NodeRow_append_115 rfl ?_
        refine z_get hx hb hts (z_lay i_NodeRow) hown hK hw f12_w rfl 1 (by decide) (z_in k_135 rfl) (fun _ h9 => h9) rfl d_NodeRow_append_116 ?_
        refine lv_iconst (v := 1) hx hb d_NodeRow_append_119 (by decide) ?_
        refine lv_iadd hx hb d_NodeRow_append_120 ?_
        refine z_topi (y := nI (R.1 + 1)) (nI_add R.1 1) ?_
        refine z_putf (ty := .int) hx hb hts (z_lay i_NodeRow) t_NodeRow t_NodeRow_ok n_NodeRow hown hK hw f12_w rfl 1 (by decide) (z_in k_135 rfl) (fun _ h9 => h9) rfl (by decide +kernel) rfl rfl (Nat.le_of_ble_eq_true rfl) d_NodeRow_append_121 (fun H locs hw => ?_)
        obtain ⟨h13, hh13⟩ : ∃ x9, z_put h12 w (mr, 0) (.inr (5, [.ref ra, .int (nI (R.1 + 1)), .int (nI ((tbC R.2 R.1) + 0))])) = x9 := ⟨_, rfl⟩
        have hw : z_S g A s.heap h13 H locs := by rw [← hh13]; exact hw
        have f13_fd : h13 fd = some ((r + 1, fi), .inr (4, [.int (nI fi), .int ki, .int ty, .int gr, .ref na, .int co, .int re, .int de, .int rq9])) := by rw [← hh13]; exact z_keep f12_w f12_fd (z_t1 (by omega))
        have f13_w : h13 w = some ((mr, 0), .inr (5, [.ref ra, .int (nI (R.1 + 1)), .int (nI ((tbC R.2 R.1) + 0))])) := by rw [← hh13]; exact z_put_eq
        have f13_ra : h13 ra = some ((mr, 1), .inl (g.2.1 4, 2000, .inr (.inr (.inr (.inr (va_up rf R.1 (some nn))))))) := by rw [← hh13]; exact z_keep f12_w f12_ra (z_t2 (by omega))
        have f13_ad_pi : h13 (ad pi) = some ((mr + 1, pi), .inr (6, [.int (ndFi (R.2 pi)), .int (ndPa (R.2 pi)), .long (ndNu (R.2 pi)), .ref (tx pi), .int (nI ((chC R.2 (nI pi) R.1) + 1)), .int (nI fi), .int (nI ((rtC S R.2 (nI pi) R.1) + 1))])) := by rw [← hh13]; exact z_keep f12_w f12_ad_pi (z_t1 (by omega))
        have f13_nn : h13 nn = some ((mr + 1, R.1), .inr (6, [.int (nI fi), .int (nI pi), .long nu, .ref (g.2.2 0), .int 0, .int (-1), .int 0])) := by rw [← hh13]; exact (z_put_ne (Ne.symm ne_w_nn)).trans f12_nn
        have kk13 : z_KT (fun t => t = (mr, 0) ∨ t = (mr, 1) ∨ t = (mr + 1, pi) ∨ t = (mr + 1, R.1)) h h13 := kk12.tr (by rw [← hh13]; exact z_KT.put f12_w (by first | decide | simp | omega))
        refine lv_aload_n hx hb d_NodeRow_append_124 rfl (lv_at hl 1 rfl) ?_
        refine z_get hx hb hts (z_lay i_NodeRow) hown hK hw f13_w rfl 1 (by decide) (z_in k_135 rfl) (fun _ h9 => h9) rfl d_NodeRow_append_125 ?_
        refine lv_iconst (v := 1) hx hb d_NodeRow_append_128 (by decide) ?_
        refine lv_isub hx hb d_NodeRow_append_129 ?_
        refine z_topi (y := nI ((R.1 + 1) - 1)) (pk_sub (a := R.1 + 1) (b := 1) (by omega)) ?_
        exact z_iret hx hb hr hlocks hw (by
    have z := hN.add (l := []) (nu := nu) (fq := fun _ => 0) hpa hpi hsz (by omega) (by simpa using htb9) (by simpa using f13_w) f13_ra f13_nn (by rw [← hki, if_pos c_64]; exact f13_ad_pi) (fun i hi e => (kk13 _ _ _ (hnd i hi).2 (by simp; omega)).trans (hnd i hi).2.symm) (fun i hi => (htx i hi).kt kk13 (by simp)) (Or.inl ⟨rfl, rfl⟩)
    exact ⟨nn, rfl, z.1, z.2, kk13⟩) (by decide) (by decide) d_NodeRow_append_130
    · -- 35: False
      have c_35 : ¬ (((tbC R.2 R.1) + 0) ≤ 16000) := fun z => c_35 ((nI_leI (a := (tbC R.2 R.1) + 0) (b := 16000) (by omega) (by omega)).mpr z)
      omega

set_option maxHeartbeats 4000000 in
set_option maxRecDepth 100000 in
theorem c_append_full0 (l : Launch) (g : z_G) (h : z_H) {mr w : Nat} {S : Sch} {R : Rec} {ra : Nat} {ad tx : Nat → Nat} {rf : Nat → Option Nat} {tf : Nat → Nat → Int32} {pi fi fd na r : Nat} {nu : Int64} {ki ty gr co re de rq9 : Int32} (hfd : h fd = some ((r + 1, fi), .inr (4, [.int (nI fi), .int ki, .int ty, .int gr, .ref na, .int co, .int re, .int de, .int rq9]))) (hN : NdP g h mr w S R ra ad tx rf tf) (hpi : pi < R.1) (hno : ¬ R.1 < 2000 ∨ 16000 < tbC R.2 R.1 + 0) : z_C l y_NodeRow_append prog_5_method_4_code 7 (Option.some Jvm.ClassFile.FieldType.int) 2 50 1 7 g [.ref w, .int (nI pi), .ref fd, .long nu, .ref (g.2.2 0)] h (fun x h1 => x = some (.int (-1)) ∧ h = h1) := by
  refine z_C.of (by decide) (Nat.le_of_ble_eq_true rfl) (fun pg en s m below meth cd A ls hx hb hml hr hts hown hlocks hnm hK hE hA hw hl => ?_)
  have hl : lv_has ls 7 [(0, .ref w), (1, .int (nI pi)), (2, .ref fd), (3, .long nu), (5, .ref (g.2.2 0))] := hl
  obtain ⟨hww, hra, hnd, htx, hs1, hs2, htb⟩ := id hN
  have hpn := (hnd pi hpi).2
  refine lv_aload_n hx hb d_NodeRow_append_0 rfl (lv_at hl 0 rfl) ?_
  refine lv_iload_n hx hb d_NodeRow_append_1 rfl (lv_at hl 1 rfl) ?_
  refine z_callV (n := 1) (As := [.int (nI pi)]) (rest := []) ⟨hx, hb, hml, hown, hts⟩ (c_nodeAt l g h hN hpi) (z_in k_563 rfl) (z_in k_5 rfl) (z_in k_560 rfl) (z_in k_561 rfl) (z_in k_562 rfl) (by decide +kernel) ⟨by first | exact Nat.le_of_ble_eq_true rfl | (dsimp only; omega) | omega, by first | exact Nat.le_of_ble_eq_true rfl | (dsimp only; omega) | omega⟩ hK hE hw hA rfl hww rfl hl.1 (Nat.le_of_ble_eq_true rfl) d_NodeRow_append_2 ⟨by first | exact Nat.le_of_ble_eq_true rfl | (dsimp only; omega) | omega, by first | exact Nat.le_of_ble_eq_true rfl | (dsimp only; omega) | omega⟩ rfl (fun r9 h9 H locs hp hw => ?_)
  obtain ⟨r8, h8⟩ := hp
  subst r8
  subst h8
  refine W.eq (g2 := F0 m 5 ls [.ref (ad pi)]) rfl ?_
  refine lv_astore (lv' := [(6, .ref (ad pi)), (0, .ref w), (1, .int (nI pi)), (2, .ref fd), (3, .long nu), (5, .ref (g.2.2 0))]) hx hb d_NodeRow_append_5 hl (by decide) rfl (fun ls hl => ?_)
  refine lv_aload hx hb d_NodeRow_append_7 (lv_at hl 0 rfl) ?_
  refine lv_ifnull hx hb d_NodeRow_append_9 ?_
  refine lv_aload_n hx hb d_NodeRow_append_12 rfl (lv_at hl 1 rfl) ?_
  refine z_get hx hb hts (z_lay i_NodeRow) hown hK hw hww rfl 1 (by decide) (z_in k_135 rfl) (fun _ h9 => h9) rfl d_NodeRow_append_13 ?_
  refine lv_aload_n hx hb d_NodeRow_append_16 rfl (lv_at hl 1 rfl) ?_
  refine z_get hx hb hts (z_lay i_NodeRow) hown hK hw hww rfl 0 (by decide) (z_in k_134 rfl) (fun _ h9 => h9) rfl d_NodeRow_append_17 ?_
  refine z_alen hx hb hK hw hra 4 rfl d_NodeRow_append_20 ?_
  refine lv_icmp_ge (tgt := 38) hx hb d_NodeRow_append_21 (by decide) (fun c_21 => ?_) (fun c_21 => ?_)
  · -- 21: True
    have c_21 : 2000 ≤ R.1 := (nI_leI (a := 2000) (b := R.1) (by omega) (by omega)).mp c_21
    refine lv_iconst (v := (-1)) hx hb d_NodeRow_append_38 (by decide) ?_
    exact z_iret hx hb hr hlocks hw ⟨rfl, rfl⟩ (by decide) (by decide) d_NodeRow_append_39
  · -- 21: False
    have c_21 : ¬ (2000 ≤ R.1) := fun z => c_21 ((nI_leI (a := 2000) (b := R.1) (by omega) (by omega)).mpr z)
    refine lv_aload_n hx hb d_NodeRow_append_24 rfl (lv_at hl 1 rfl) ?_
    refine z_get hx hb hts (z_lay i_NodeRow) hown hK hw hww rfl 2 (by decide) (z_in k_138 rfl) (fun _ h9 => h9) rfl d_NodeRow_append_25 ?_
    refine lv_aload hx hb d_NodeRow_append_28 (lv_at hl 5 rfl) ?_
    refine z_noblen hx hb hE hw d_NodeRow_append_30 ?_
    refine lv_iadd hx hb d_NodeRow_append_31 ?_
    refine z_topi (y := nI ((tbC R.2 R.1) + 0)) (nI_add (tbC R.2 R.1) 0) ?_
    refine lv_sipush (v := 16000) hx hb d_NodeRow_append_32 (by decide) ?_
    refine lv_icmp_le (tgt := 40) hx hb d_NodeRow_append_35 (by decide) (fun c_35 => ?_) (fun c_35 => ?_)
    · -- 35: True
      have c_35 : ((tbC R.2 R.1) + 0) ≤ 16000 := (nI_leI (a := (tbC R.2 R.1) + 0) (b := 16000) (by omega) (by omega)).mp c_35
      omega
    · -- 35: False
      have c_35 : ¬ (((tbC R.2 R.1) + 0) ≤ 16000) := fun z => c_35 ((nI_leI (a := (tbC R.2 R.1) + 0) (b := 16000) (by omega) (by omega)).mpr z)
      refine lv_iconst (v := (-1)) hx hb d_NodeRow_append_38 (by decide) ?_
      exact z_iret hx hb hr hlocks hw ⟨rfl, rfl⟩ (by decide) (by decide) d_NodeRow_append_39

set_option maxHeartbeats 4000000 in
set_option maxRecDepth 100000 in
theorem c_appendT (l : Launch) (g : z_G) (h : z_H) {mr w : Nat} {S : Sch} {R : Rec} {ra : Nat} {ad tx : Nat → Nat} {rf : Nat → Option Nat} {tf : Nat → Nat → Int32} {pi fi fd na r : Nat} {nu : Int64} {ki ty gr co re de rq9 : Int32} {tq : Nat} {lq : List Nat} {fq : Nat → Int32} (hfd : h fd = some ((r + 1, fi), .inr (4, [.int (nI fi), .int ki, .int ty, .int gr, .ref na, .int co, .int re, .int de, .int rq9]))) (htq : h tq = some ((mr + 2, R.1), .inl (g.2.1 0, lq.length, .inl fq))) (hN : NdP g h mr w S R ra ad tx rf tf) (hpa : paOK R) (hpi : pi < R.1) (hsz : R.1 < 2000) (hfi : fi < 1000) (hm : mr < 60) (hr0 : 100 ≤ r) (hki : ki = fKi (S.2 fi)) (htb9 : tbC R.2 R.1 + lq.length ≤ 16000) (hlq : lq.length ≤ 255 ∧ ∀ k, k < lq.length → lq.getD k 0 < 256 ∧ fq k = sb_b (lq.getD k 0)) : z_C l y_NodeRow_append prog_5_method_4_code 7 (Option.some Jvm.ClassFile.FieldType.int) 2 50 1 7 g [.ref w, .int (nI pi), .ref fd, .long nu, .ref tq] h (fun x h1 => ∃ nn, x = some (.int (nI R.1)) ∧ NdP g h1 mr w S (addN R (nI fi, nI pi, nu, lq)) ra (va_up ad R.1 nn) (va_up tx R.1 tq) (va_up rf R.1 (some nn)) (va_up tf R.1 fq) ∧ paOK (addN R (nI fi, nI pi, nu, lq)) ∧ z_KT (fun t => t = (mr, 0) ∨ t = (mr, 1) ∨ t = (mr + 1, pi) ∨ t = (mr + 1, R.1)) h h1) := by
  refine z_C.of (by decide) (Nat.le_of_ble_eq_true rfl) (fun pg en s m below meth cd A ls hx hb hml hr hts hown hlocks hnm hK hE hA hw hl => ?_)
  have hl : lv_has ls 7 [(0, .ref w), (1, .int (nI pi)), (2, .ref fd), (3, .long nu), (5, .ref tq)] := hl
  obtain ⟨hww, hra, hnd, htx, hs1, hs2, htb⟩ := id hN
  have hpn := (hnd pi hpi).2
  have hc9 := chC_le R.2 (nI pi) R.1
  have hr9 := rtC_le S R.2 (nI pi) R.1
  have kk0 : z_KT (fun t => t = (mr, 0) ∨ t = (mr, 1) ∨ t = (mr + 1, pi) ∨ t = (mr + 1, R.1)) h h := z_KT.rf
  refine lv_aload_n hx hb d_NodeRow_append_0 rfl (lv_at hl 0 rfl) ?_
  refine lv_iload_n hx hb d_NodeRow_append_1 rfl (lv_at hl 1 rfl) ?_
  refine z_callV (n := 1) (As := [.int (nI pi)]) (rest := []) ⟨hx, hb, hml, hown, hts⟩ (c_nodeAt l g h hN hpi) (z_in k_563 rfl) (z_in k_5 rfl) (z_in k_560 rfl) (z_in k_561 rfl) (z_in k_562 rfl) (by decide +kernel) ⟨by first | exact Nat.le_of_ble_eq_true rfl | (dsimp only; omega) | omega, by first | exact Nat.le_of_ble_eq_true rfl | (dsimp only; omega) | omega⟩ hK hE hw hA rfl hww rfl hl.1 (Nat.le_of_ble_eq_true rfl) d_NodeRow_append_2 ⟨by first | exact Nat.le_of_ble_eq_true rfl | (dsimp only; omega) | omega, by first | exact Nat.le_of_ble_eq_true rfl | (dsimp only; omega) | omega⟩ rfl (fun r9 h9 H locs hp hw => ?_)
  obtain ⟨r8, h8⟩ := hp
  subst r8
  subst h8
  refine W.eq (g2 := F0 m 5 ls [.ref (ad pi)]) rfl ?_
  refine lv_astore (lv' := [(6, .ref (ad pi)), (0, .ref w), (1, .int (nI pi)), (2, .ref fd), (3, .long nu), (5, .ref tq)]) hx hb d_NodeRow_append_5 hl (by decide) rfl (fun ls hl => ?_)
  refine lv_aload hx hb d_NodeRow_append_7 (lv_at hl 0 rfl) ?_
  refine lv_ifnull hx hb d_NodeRow_append_9 ?_
  refine lv_aload_n hx hb d_NodeRow_append_12 rfl (lv_at hl 1 rfl) ?_
  refine z_get hx hb hts (z_lay i_NodeRow) hown hK hw hww rfl 1 (by decide) (z_in k_135 rfl) (fun _ h9 => h9) rfl d_NodeRow_append_13 ?_
  refine lv_aload_n hx hb d_NodeRow_append_16 rfl (lv_at hl 1 rfl) ?_
  refine z_get hx hb hts (z_lay i_NodeRow) hown hK hw hww rfl 0 (by decide) (z_in k_134 rfl) (fun _ h9 => h9) rfl d_NodeRow_append_17 ?_
  refine z_alen hx hb hK hw hra 4 rfl d_NodeRow_append_20 ?_
  refine lv_icmp_ge (tgt := 38) hx hb d_NodeRow_append_21 (by decide) (fun c_21 => ?_) (fun c_21 => ?_)
  · -- 21: True
    have c_21 : 2000 ≤ R.1 := (nI_leI (a := 2000) (b := R.1) (by omega) (by omega)).mp c_21
    omega
  · -- 21: False
    have c_21 : ¬ (2000 ≤ R.1) := fun z => c_21 ((nI_leI (a := 2000) (b := R.1) (by omega) (by omega)).mpr z)
    refine lv_aload_n hx hb d_NodeRow_append_24 rfl (lv_at hl 1 rfl) ?_
    refine z_get hx hb hts (z_lay i_NodeRow) hown hK hw hww rfl 2 (by decide) (z_in k_138 rfl) (fun _ h9 => h9) rfl d_NodeRow_append_25 ?_
    refine lv_aload hx hb d_NodeRow_append_28 (lv_at hl 5 rfl) ?_
    refine z_alen hx hb hK hw htq 0 rfl d_NodeRow_append_30 ?_
    refine lv_iadd hx hb d_NodeRow_append_31 ?_
    refine z_topi (y := nI ((tbC R.2 R.1) + lq.length)) (nI_add (tbC R.2 R.1) lq.length) ?_
    refine lv_sipush (v := 16000) hx hb d_NodeRow_append_32 (by decide) ?_
    refine lv_icmp_le (tgt := 40) hx hb d_NodeRow_append_35 (by decide) (fun c_35 => ?_) (fun c_35 => ?_)
    · -- 35: True
      have c_35 : ((tbC R.2 R.1) + lq.length) ≤ 16000 := (nI_leI (a := (tbC R.2 R.1) + lq.length) (b := 16000) (by omega) (by omega)).mp c_35
      refine lv_aload hx hb d_NodeRow_append_40 (lv_at hl 0 rfl) ?_
      refine lv_dup hx hb d_NodeRow_append_42 rfl ?_
      refine z_getN hx hb hts (z_lay i_Node) hown hK hw hpn rfl 4 (by decide) hE.nest (z_inN k_115 rfl) (fun _ h9 => h9) rfl d_NodeRow_append_43 ?_
      refine lv_iconst (v := 1) hx hb d_NodeRow_append_46 (by decide) ?_
      refine lv_iadd hx hb d_NodeRow_append_47 ?_
      refine z_topi (y := nI ((chC R.2 (nI pi) R.1) + 1)) (nI_add (chC R.2 (nI pi) R.1) 1) ?_
      refine z_putN (ty := .int) hx hb hts (z_lay i_Node) t_Node t_Node_ok n_Node hown hK hw hpn rfl 4 (by decide) hE.nest (z_inN k_115 rfl) (fun _ h9 => h9) rfl (by decide +kernel) rfl rfl (Nat.le_of_ble_eq_true rfl) d_NodeRow_append_48 (fun H locs hw => ?_)
      obtain ⟨h1, hh1⟩ : ∃ x9, z_put h (ad pi) (mr + 1, pi) (.inr (6, [.int (ndFi (R.2 pi)), .int (ndPa (R.2 pi)), .long (ndNu (R.2 pi)), .ref (tx pi), .int (nI ((chC R.2 (nI pi) R.1) + 1)), .int (lfC R.2 (nI pi) R.1), .int (nI (rtC S R.2 (nI pi) R.1))])) = x9 := ⟨_, rfl⟩
      have hw : z_S g A s.heap h1 H locs := by rw [← hh1]; exact hw
      have f1_fd : h1 fd = some ((r + 1, fi), .inr (4, [.int (nI fi), .int ki, .int ty, .int gr, .ref na, .int co, .int re, .int de, .int rq9])) := by rw [← hh1]; exact z_keep hpn hfd (z_t1 (by omega))
      have f1_tq : h1 tq = some ((mr + 2, R.1), .inl (g.2.1 0, lq.length, .inl fq)) := by rw [← hh1]; exact z_keep hpn htq (z_t1 (by omega))
      have f1_w : h1 w = some ((mr, 0), .inr (5, [.ref ra, .int (nI R.1), .int (nI (tbC R.2 R.1))])) := by rw [← hh1]; exact z_keep hpn hww (z_t1 (by omega))
      have f1_ra : h1 ra = some ((mr, 1), .inl (g.2.1 4, 2000, .inr (.inr (.inr (.inr rf))))) := by rw [← hh1]; exact z_keep hpn hra (z_t1 (by omega))
      have f1_ad_pi : h1 (ad pi) = some ((mr + 1, pi), .inr (6, [.int (ndFi (R.2 pi)), .int (ndPa (R.2 pi)), .long (ndNu (R.2 pi)), .ref (tx pi), .int (nI ((chC R.2 (nI pi) R.1) + 1)), .int (lfC R.2 (nI pi) R.1), .int (nI (rtC S R.2 (nI pi) R.1))])) := by rw [← hh1]; exact z_put_eq
      have kk1 : z_KT (fun t => t = (mr, 0) ∨ t = (mr, 1) ∨ t = (mr + 1, pi) ∨ t = (mr + 1, R.1)) h h1 := kk0.tr (by rw [← hh1]; exact z_KT.put hpn (by first | decide | simp | omega))
      refine lv_aload hx hb d_NodeRow_append_51 (lv_at hl 0 rfl) ?_
      refine lv_aload_n hx hb d_NodeRow_append_53 rfl (lv_at hl 3 rfl) ?_
      refine z_getN hx hb hts (z_lay i_Field) hown hK hw f1_fd rfl 0 (by decide) hE.nest (z_inN k_402 rfl) (fun _ h9 => h9) rfl d_NodeRow_append_54 ?_
      refine z_putN (ty := .int) hx hb hts (z_lay i_Node) t_Node t_Node_ok n_Node hown hK hw f1_ad_pi rfl 5 (by decide) hE.nest (z_inN k_117 rfl) (fun _ h9 => h9) rfl (by decide +kernel) rfl rfl (Nat.le_of_ble_eq_true rfl) d_NodeRow_append_57 (fun H locs hw => ?_)
      obtain ⟨h2, hh2⟩ : ∃ x9, z_put h1 (ad pi) (mr + 1, pi) (.inr (6, [.int (ndFi (R.2 pi)), .int (ndPa (R.2 pi)), .long (ndNu (R.2 pi)), .ref (tx pi), .int (nI ((chC R.2 (nI pi) R.1) + 1)), .int (nI fi), .int (nI (rtC S R.2 (nI pi) R.1))])) = x9 := ⟨_, rfl⟩
      have hw : z_S g A s.heap h2 H locs := by rw [← hh2]; exact hw
      have f2_fd : h2 fd = some ((r + 1, fi), .inr (4, [.int (nI fi), .int ki, .int ty, .int gr, .ref na, .int co, .int re, .int de, .int rq9])) := by rw [← hh2]; exact z_keep f1_ad_pi f1_fd (z_t1 (by omega))
      have f2_tq : h2 tq = some ((mr + 2, R.1), .inl (g.2.1 0, lq.length, .inl fq)) := by rw [← hh2]; exact z_keep f1_ad_pi f1_tq (z_t1 (by omega))
      have f2_w : h2 w = some ((mr, 0), .inr (5, [.ref ra, .int (nI R.1), .int (nI (tbC R.2 R.1))])) := by rw [← hh2]; exact z_keep f1_ad_pi f1_w (z_t1 (by omega))
      have f2_ra : h2 ra = some ((mr, 1), .inl (g.2.1 4, 2000, .inr (.inr (.inr (.inr rf))))) := by rw [← hh2]; exact z_keep f1_ad_pi f1_ra (z_t1 (by omega))
      have f2_ad_pi : h2 (ad pi) = some ((mr + 1, pi), .inr (6, [.int (ndFi (R.2 pi)), .int (ndPa (R.2 pi)), .long (ndNu (R.2 pi)), .ref (tx pi), .int (nI ((chC R.2 (nI pi) R.1) + 1)), .int (nI fi), .int (nI (rtC S R.2 (nI pi) R.1))])) := by rw [← hh2]; exact z_put_eq
      have kk2 : z_KT (fun t => t = (mr, 0) ∨ t = (mr, 1) ∨ t = (mr + 1, pi) ∨ t = (mr + 1, R.1)) h h2 := kk1.tr (by rw [← hh2]; exact z_KT.put f1_ad_pi (by first | decide | simp | omega))
      refine lv_aload_n hx hb d_NodeRow_append_60 rfl (lv_at hl 3 rfl) ?_
      refine z_getN hx hb hts (z_lay i_Field) hown hK hw f2_fd rfl 1 (by decide) hE.nest (z_inN k_407 rfl) (fun _ h9 => h9) rfl d_NodeRow_append_61 ?_
      refine lv_if_ne (tgt := 78) hx hb d_NodeRow_append_64 (by decide) (fun c_64 => ?_) (fun c_64 => ?_)
      · -- 64: True
        refine lv_aload_n hx hb d_NodeRow_append_78 rfl (lv_at hl 1 rfl) ?_
        refine z_get hx hb hts (z_lay i_NodeRow) hown hK hw f2_w rfl 0 (by decide) (z_in k_134 rfl) (fun _ h9 => h9) rfl d_NodeRow_append_79 ?_
        refine lv_aload_n hx hb d_NodeRow_append_82 rfl (lv_at hl 1 rfl) ?_
        refine z_get hx hb hts (z_lay i_NodeRow) hown hK hw f2_w rfl 1 (by decide) (z_in k_135 rfl) (fun _ h9 => h9) rfl d_NodeRow_append_83 ?_
        refine z_new (ci := 6) (fs := [.int 0, .int 0, .long 0, .null, .int 0, .int 0, .int 0]) hx hb hts (z_lay i_Node) t_Node t_Node_ok hown (z_in k_89 rfl) (z_in k_95 rfl) (z_in k_6 rfl) hK hw hA rfl (fun j hj => by rcases (show j = 0 ∨ j = 1 ∨ j = 2 ∨ j = 3 ∨ j = 4 ∨ j = 5 ∨ j = 6 by omega) with rfl | rfl | rfl | rfl | rfl | rfl | rfl <;> rfl) (by first | exact Nat.le_of_ble_eq_true rfl | (dsimp only; omega) | omega) (by first | exact Nat.le_of_ble_eq_true rfl | (dsimp only; omega) | omega) d_NodeRow_append_86 (mr + 1, R.1) (fun nn H n_nn hw => ?_)
        obtain ⟨h3, hh3⟩ : ∃ x9, z_put h2 nn (mr + 1, R.1) (.inr (6, [.int 0, .int 0, .long 0, .null, .int 0, .int 0, .int 0])) = x9 := ⟨_, rfl⟩
        have hw : z_S g A s.heap h3 H locs := by rw [← hh3]; exact hw
        have ne_fd_nn : fd ≠ nn := fun z => by have z2 := f2_fd; rw [z, n_nn] at z2; cases z2
        have ne_tq_nn : tq ≠ nn := fun z => by have z2 := f2_tq; rw [z, n_nn] at z2; cases z2
        have ne_w_nn : w ≠ nn := fun z => by have z2 := f2_w; rw [z, n_nn] at z2; cases z2
        have ne_ra_nn : ra ≠ nn := fun z => by have z2 := f2_ra; rw [z, n_nn] at z2; cases z2
        have ne_ad_pi_nn : (ad pi) ≠ nn := fun z => by have z2 := f2_ad_pi; rw [z, n_nn] at z2; cases z2
        have f3_fd : h3 fd = some ((r + 1, fi), .inr (4, [.int (nI fi), .int ki, .int ty, .int gr, .ref na, .int co, .int re, .int de, .int rq9])) := by rw [← hh3]; exact z_keepN n_nn f2_fd
        have f3_tq : h3 tq = some ((mr + 2, R.1), .inl (g.2.1 0, lq.length, .inl fq)) := by rw [← hh3]; exact z_keepN n_nn f2_tq
        have f3_w : h3 w = some ((mr, 0), .inr (5, [.ref ra, .int (nI R.1), .int (nI (tbC R.2 R.1))])) := by rw [← hh3]; exact z_keepN n_nn f2_w
        have f3_ra : h3 ra = some ((mr, 1), .inl (g.2.1 4, 2000, .inr (.inr (.inr (.inr rf))))) := by rw [← hh3]; exact z_keepN n_nn f2_ra
        have f3_ad_pi : h3 (ad pi) = some ((mr + 1, pi), .inr (6, [.int (ndFi (R.2 pi)), .int (ndPa (R.2 pi)), .long (ndNu (R.2 pi)), .ref (tx pi), .int (nI ((chC R.2 (nI pi) R.1) + 1)), .int (nI fi), .int (nI (rtC S R.2 (nI pi) R.1))])) := by rw [← hh3]; exact z_keepN n_nn f2_ad_pi
        have f3_nn : h3 nn = some ((mr + 1, R.1), .inr (6, [.int 0, .int 0, .long 0, .null, .int 0, .int 0, .int 0])) := by rw [← hh3]; exact z_put_eq
        have kk3 : z_KT (fun t => t = (mr, 0) ∨ t = (mr, 1) ∨ t = (mr + 1, pi) ∨ t = (mr + 1, R.1)) h h3 := kk2.tr (by rw [← hh3]; exact z_KT.new n_nn)
        refine lv_dup hx hb d_NodeRow_append_89 rfl ?_
        refine lv_aload_n hx hb d_NodeRow_append_90 rfl (lv_at hl 3 rfl) ?_
        refine z_getN hx hb hts (z_lay i_Field) hown hK hw f3_fd rfl 0 (by decide) hE.nest (z_inN k_402 rfl) (fun _ h9 => h9) rfl d_NodeRow_append_91 ?_
        refine lv_iload_n hx hb d_NodeRow_append_94 rfl (lv_at hl 2 rfl) ?_
        refine lv_lload_n hx hb d_NodeRow_append_95 rfl (lv_at hl 4 rfl) ?_
        refine lv_aload hx hb d_NodeRow_append_96 (lv_at hl 5 rfl) ?_
        refine z_callI (n := 4) (As := [.int (nI fi), .int (nI pi), .long nu, .ref tq]) (rest := [.ref nn, .int (nI R.1), .ref ra]) ⟨hx, hb, hml, hown, hts⟩ (c_Node_init l g h3 f3_nn) (z_in k_100 rfl) (z_in k_6 rfl) (z_in k_98 rfl) (z_in k_99 rfl) rfl (by decide +kernel) ⟨by first | exact Nat.le_of_ble_eq_true rfl | (dsimp only; omega) | omega, by first | exact Nat.le_of_ble_eq_true rfl | (dsimp only; omega) | omega⟩ hK hE hw hA rfl hl.1 (Nat.le_of_ble_eq_true rfl) d_NodeRow_append_98 ⟨by first | exact Nat.le_of_ble_eq_true rfl | (dsimp only; omega) | omega, by first | exact Nat.le_of_ble_eq_true rfl | (dsimp only; omega) | omega⟩ rfl (fun r9 h9 H locs hp hw => ?_)
        obtain ⟨r8, hh4⟩ := hp
        subst r8
        obtain ⟨h4, e8⟩ : ∃ x9, x9 = h9 := ⟨_, rfl⟩
        subst e8
        have f4_fd : h4 fd = some ((r + 1, fi), .inr (4, [.int (nI fi), .int ki, .int ty, .int gr, .ref na, .int co, .int re, .int de, .int rq9])) := by rw [← hh4]; exact (z_put_ne ne_fd_nn).trans f3_fd
        have f4_tq : h4 tq = some ((mr + 2, R.1), .inl (g.2.1 0, lq.length, .inl fq)) := by rw [← hh4]; exact (z_put_ne ne_tq_nn).trans f3_tq
        have f4_w : h4 w = some ((mr, 0), .inr (5, [.ref ra, .int (nI R.1), .int (nI (tbC R.2 R.1))])) := by rw [← hh4]; exact (z_put_ne ne_w_nn).trans f3_w
        have f4_ra : h4 ra = some ((mr, 1), .inl (g.2.1 4, 2000, .inr (.inr (.inr (.inr rf))))) := by rw [← hh4]; exact (z_put_ne ne_ra_nn).trans f3_ra
        have f4_ad_pi : h4 (ad pi) = some ((mr + 1, pi), .inr (6, [.int (ndFi (R.2 pi)), .int (ndPa (R.2 pi)), .long (ndNu (R.2 pi)), .ref (tx pi), .int (nI ((chC R.2 (nI pi) R.1) + 1)), .int (nI fi), .int (nI (rtC S R.2 (nI pi) R.1))])) := by rw [← hh4]; exact (z_put_ne ne_ad_pi_nn).trans f3_ad_pi
        have f4_nn : h4 nn = some ((mr + 1, R.1), .inr (6, [.int (nI fi), .int (nI pi), .long nu, .ref tq, .int 0, .int (-1), .int 0])) := by rw [← hh4]; exact z_put_eq
        have kk4 : z_KT (fun t => t = (mr, 0) ∨ t = (mr, 1) ∨ t = (mr + 1, pi) ∨ t = (mr + 1, R.1)) h h4 := kk3.tr (by rw [← hh4]; exact z_KT.put f3_nn (by first | decide | simp | omega))
        refine W.eq (g2 := F0 m 101 ls [.ref nn, .int (nI R.1), .ref ra]) rfl ?_
        refine z_astq hx hb hK hw f4_ra 4 rfl f4_nn rfl (vp_in_nI (by omega) (by omega)) d_NodeRow_append_101 (fun H locs hw => ?_)
        rw [nI_clamp (by omega)] at hw
        obtain ⟨h5, hh5⟩ : ∃ x9, z_put h4 ra (mr, 1) (.inl (g.2.1 4, 2000, .inr (.inr (.inr (.inr (va_up rf R.1 (some nn))))))) = x9 := ⟨_, rfl⟩
        have hw : z_S g A s.heap h5 H locs := by rw [← hh5]; exact hw
        have f5_fd : h5 fd = some ((r + 1, fi), .inr (4, [.int (nI fi), .int ki, .int ty, .int gr, .ref na, .int co, .int re, .int de, .int rq9])) := by rw [← hh5]; exact z_keep f4_ra f4_fd (z_t1 (by omega))
        have f5_tq : h5 tq = some ((mr + 2, R.1), .inl (g.2.1 0, lq.length, .inl fq)) := by rw [← hh5]; exact z_keep f4_ra f4_tq (z_t1 (by omega))
        have f5_w : h5 w = some ((mr, 0), .inr (5, [.ref ra, .int (nI R.1), .int (nI (tbC R.2 R.1))])) := by rw [← hh5]; exact z_keep f4_ra f4_w (z_t2 (by omega))
        have f5_ra : h5 ra = some ((mr, 1), .inl (g.2.1 4, 2000, .inr (.inr (.inr (.inr (va_up rf R.1 (some nn))))))) := by rw [← hh5]; exact z_put_eq
        have f5_ad_pi : h5 (ad pi) = some ((mr + 1, pi), .inr (6, [.int (ndFi (R.2 pi)), .int (ndPa (R.2 pi)), .long (ndNu (R.2 pi)), .ref (tx pi), .int (nI ((chC R.2 (nI pi) R.1) + 1)), .int (nI fi), .int (nI (rtC S R.2 (nI pi) R.1))])) := by rw [← hh5]; exact z_keep f4_ra f4_ad_pi (z_t1 (by omega))
        have f5_nn : h5 nn = some ((mr + 1, R.1), .inr (6, [.int (nI fi), .int (nI pi), .long nu, .ref tq, .int 0, .int (-1), .int 0])) := by rw [← hh5]; exact (z_put_ne (Ne.symm ne_ra_nn)).trans f4_nn
        have kk5 : z_KT (fun t => t = (mr, 0) ∨ t = (mr, 1) ∨ t = (mr + 1, pi) ∨ t = (mr + 1, R.1)) h h5 := kk4.tr (by rw [← hh5]; exact z_KT.put f4_ra (by first | decide | simp | omega))
        refine lv_aload_n hx hb d_NodeRow_append_102 rfl (lv_at hl 1 rfl) ?_
        refine lv_dup hx hb d_NodeRow_append_103 rfl ?_
        refine z_get hx hb hts (z_lay i_NodeRow) hown hK hw f5_w rfl 2 (by decide) (z_in k_138 rfl) (fun _ h9 => h9) rfl d_NodeRow_append_104 ?_
        refine lv_aload hx hb d_NodeRow_append_107 (lv_at hl 5 rfl) ?_
        refine z_alen hx hb hK hw f5_tq 0 rfl d_NodeRow_append_109 ?_
        refine lv_iadd hx hb d_NodeRow_append_110 ?_
        refine z_topi (y := nI ((tbC R.2 R.1) + lq.length)) (nI_add (tbC R.2 R.1) lq.length) ?_
        refine z_putf (ty := .int) hx hb hts (z_lay i_NodeRow) t_NodeRow t_NodeRow_ok n_NodeRow hown hK hw f5_w rfl 2 (by decide) (z_in k_138 rfl) (fun _ h9 => h9) rfl (by decide +kernel) rfl rfl (Nat.le_of_ble_eq_true rfl) d_NodeRow_append_111 (fun H locs hw => ?_)
        obtain ⟨h6, hh6⟩ : ∃ x9, z_put h5 w (mr, 0) (.inr (5, [.ref ra, .int (nI R.1), .int (nI ((tbC R.2 R.1) + lq.length))])) = x9 := ⟨_, rfl⟩
        have hw : z_S g A s.heap h6 H locs := by rw [← hh6]; exact hw
        have f6_fd : h6 fd = some ((r + 1, fi), .inr (4, [.int (nI fi), .int ki, .int ty, .int gr, .ref na, .int co, .int re, .int de, .int rq9])) := by rw [← hh6]; exact z_keep f5_w f5_fd (z_t1 (by omega))
        have f6_tq : h6 tq = some ((mr + 2, R.1), .inl (g.2.1 0, lq.length, .inl fq)) := by rw [← hh6]; exact z_keep f5_w f5_tq (z_t1 (by omega))
        have f6_w : h6 w = some ((mr, 0), .inr (5, [.ref ra, .int (nI R.1), .int (nI ((tbC R.2 R.1) + lq.length))])) := by rw [← hh6]; exact z_put_eq
        have f6_ra : h6 ra = some ((mr, 1), .inl (g.2.1 4, 2000, .inr (.inr (.inr (.inr (va_up rf R.1 (some nn))))))) := by rw [← hh6]; exact z_keep f5_w f5_ra (z_t2 (by omega))
        have f6_ad_pi : h6 (ad pi) = some ((mr + 1, pi), .inr (6, [.int (ndFi (R.2 pi)), .int (ndPa (R.2 pi)), .long (ndNu (R.2 pi)), .ref (tx pi), .int (nI ((chC R.2 (nI pi) R.1) + 1)), .int (nI fi), .int (nI (rtC S R.2 (nI pi) R.1))])) := by rw [← hh6]; exact z_keep f5_w f5_ad_pi (z_t1 (by omega))
        have f6_nn : h6 nn = some ((mr + 1, R.1), .inr (6, [.int (nI fi), .int (nI pi), .long nu, .ref tq, .int 0, .int (-1), .int 0])) := by rw [← hh6]; exact (z_put_ne (Ne.symm ne_w_nn)).trans f5_nn
        have kk6 : z_KT (fun t => t = (mr, 0) ∨ t = (mr, 1) ∨ t = (mr + 1, pi) ∨ t = (mr + 1, R.1)) h h6 := kk5.tr (by rw [← hh6]; exact z_KT.put f5_w (by first | decide | simp | omega))
        refine lv_aload_n hx hb d_NodeRow_append_114 rfl (lv_at hl 1 rfl) ?_
        refine lv_dup hx hb d_NodeRow_append_115 rfl ?_
        refine z_get hx hb hts (z_lay i_NodeRow) hown hK hw f6_w rfl 1 (by decide) (z_in k_135 rfl) (fun _ h9 => h9) rfl d_NodeRow_append_116 ?_
        refine lv_iconst (v := 1) hx hb d_NodeRow_append_119 (by decide) ?_
        refine lv_iadd hx hb d_NodeRow_append_120 ?_
        refine z_topi (y := nI (R.1 + 1)) (nI_add R.1 1) ?_
        refine z_putf (ty := .int) hx hb hts (z_lay i_NodeRow) t_NodeRow t_NodeRow_ok n_NodeRow hown hK hw f6_w rfl 1 (by decide) (z_in k_135 rfl) (fun _ h9 => h9) rfl (by decide +kernel) rfl rfl (Nat.le_of_ble_eq_true rfl) d_NodeRow_append_121 (fun H locs hw => ?_)
        obtain ⟨h7, hh7⟩ : ∃ x9, z_put h6 w (mr, 0) (.inr (5, [.ref ra, .int (nI (R.1 + 1)), .int (nI ((tbC R.2 R.1) + lq.length))])) = x9 := ⟨_, rfl⟩
        have hw : z_S g A s.heap h7 H locs := by rw [← hh7]; exact hw
        have f7_fd : h7 fd = some ((r + 1, fi), .inr (4, [.int (nI fi), .int ki, .int ty, .int gr, .ref na, .int co, .int re, .int de, .int rq9])) := by rw [← hh7]; exact z_keep f6_w f6_fd (z_t1 (by omega))
        have f7_tq : h7 tq = some ((mr + 2, R.1), .inl (g.2.1 0, lq.length, .inl fq)) := by rw [← hh7]; exact z_keep f6_w f6_tq (z_t1 (by omega))
        have f7_w : h7 w = some ((mr, 0), .inr (5, [.ref ra, .int (nI (R.1 + 1)), .int (nI ((tbC R.2 R.1) + lq.length))])) := by rw [← hh7]; exact z_put_eq
        have f7_ra : h7 ra = some ((mr, 1), .inl (g.2.1 4, 2000, .inr (.inr (.inr (.inr (va_up rf R.1 (some nn))))))) := by rw [← hh7]; exact z_keep f6_w f6_ra (z_t2 (by omega))
        have f7_ad_pi : h7 (ad pi) = some ((mr + 1, pi), .inr (6, [.int (ndFi (R.2 pi)), .int (ndPa (R.2 pi)), .long (ndNu (R.2 pi)), .ref (tx pi), .int (nI ((chC R.2 (nI pi) R.1) + 1)), .int (nI fi), .int (nI (rtC S R.2 (nI pi) R.1))])) := by rw [← hh7]; exact z_keep f6_w f6_ad_pi (z_t1 (by omega))
        have f7_nn : h7 nn = some ((mr + 1, R.1), .inr (6, [.int (nI fi), .int (nI pi), .long nu, .ref tq, .int 0, .int (-1), .int 0])) := by rw [← hh7]; exact (z_put_ne (Ne.symm ne_w_nn)).trans f6_nn
        have kk7 : z_KT (fun t => t = (mr, 0) ∨ t = (mr, 1) ∨ t = (mr + 1, pi) ∨ t = (mr + 1, R.1)) h h7 := kk6.tr (by rw [← hh7]; exact z_KT.put f6_w (by first | decide | simp | omega))
        refine lv_aload_n hx hb d_NodeRow_append_124 rfl (lv_at hl 1 rfl) ?_
        refine z_get hx hb hts (z_lay i_NodeRow) hown hK hw f7_w rfl 1 (by decide) (z_in k_135 rfl) (fun _ h9 => h9) rfl d_NodeRow_append_125 ?_
        refine lv_iconst (v := 1) hx hb d_NodeRow_append_128 (by decide) ?_
        refine lv_isub hx hb d_NodeRow_append_129 ?_
        refine z_topi (y := nI ((R.1 + 1) - 1)) (pk_sub (a := R.1 + 1) (b := 1) (by omega)) ?_
        exact z_iret hx hb hr hlocks hw (by
    have z := hN.add (l := lq) (nu := nu) (fq := fq) hpa hpi hsz (by omega) (by simpa using htb9) (by simpa using f7_w) f7_ra f7_nn (by rw [← hki, if_neg c_64]; exact f7_ad_pi) (fun i hi e => (kk7 _ _ _ (hnd i hi).2 (by simp; omega)).trans (hnd i hi).2.symm) (fun i hi => (htx i hi).kt kk7 (by simp)) (Or.inr ⟨f7_tq, hlq.1, hlq.2⟩)
    exact ⟨nn, rfl, z.1, z.2, kk7⟩) (by decide) (by decide) d_NodeRow_append_130
      · -- 64: False
        refine lv_aload hx hb d_NodeRow_append_67 (lv_at hl 0 rfl) ?_
        refine lv_dup hx hb d_NodeRow_append_69 rfl ?_
        refine z_getN hx hb hts (z_lay i_Node) hown hK hw f2_ad_pi rfl 6 (by decide) hE.nest (z_inN k_118 rfl) (fun _ h9 => h9) rfl d_NodeRow_append_70 ?_
        refine lv_iconst (v := 1) hx hb d_NodeRow_append_73 (by decide) ?_
        refine lv_iadd hx hb d_NodeRow_append_74 ?_
        refine z_topi (y := nI ((rtC S R.2 (nI pi) R.1) + 1)) (nI_add (rtC S R.2 (nI pi) R.1) 1) ?_
        refine z_putN (ty := .int) hx hb hts (z_lay i_Node) t_Node t_Node_ok n_Node hown hK hw f2_ad_pi rfl 6 (by decide) hE.nest (z_inN k_118 rfl) (fun _ h9 => h9) rfl (by decide +kernel) rfl rfl (Nat.le_of_ble_eq_true rfl) d_NodeRow_append_75 (fun H locs hw => ?_)
        obtain ⟨h8, hh8⟩ : ∃ x9, z_put h2 (ad pi) (mr + 1, pi) (.inr (6, [.int (ndFi (R.2 pi)), .int (ndPa (R.2 pi)), .long (ndNu (R.2 pi)), .ref (tx pi), .int (nI ((chC R.2 (nI pi) R.1) + 1)), .int (nI fi), .int (nI ((rtC S R.2 (nI pi) R.1) + 1))])) = x9 := ⟨_, rfl⟩
        have hw : z_S g A s.heap h8 H locs := by rw [← hh8]; exact hw
        have f8_fd : h8 fd = some ((r + 1, fi), .inr (4, [.int (nI fi), .int ki, .int ty, .int gr, .ref na, .int co, .int re, .int de, .int rq9])) := by rw [← hh8]; exact z_keep f2_ad_pi f2_fd (z_t1 (by omega))
        have f8_tq : h8 tq = some ((mr + 2, R.1), .inl (g.2.1 0, lq.length, .inl fq)) := by rw [← hh8]; exact z_keep f2_ad_pi f2_tq (z_t1 (by omega))
        have f8_w : h8 w = some ((mr, 0), .inr (5, [.ref ra, .int (nI R.1), .int (nI (tbC R.2 R.1))])) := by rw [← hh8]; exact z_keep f2_ad_pi f2_w (z_t1 (by omega))
        have f8_ra : h8 ra = some ((mr, 1), .inl (g.2.1 4, 2000, .inr (.inr (.inr (.inr rf))))) := by rw [← hh8]; exact z_keep f2_ad_pi f2_ra (z_t1 (by omega))
        have f8_ad_pi : h8 (ad pi) = some ((mr + 1, pi), .inr (6, [.int (ndFi (R.2 pi)), .int (ndPa (R.2 pi)), .long (ndNu (R.2 pi)), .ref (tx pi), .int (nI ((chC R.2 (nI pi) R.1) + 1)), .int (nI fi), .int (nI ((rtC S R.2 (nI pi) R.1) + 1))])) := by rw [← hh8]; exact z_put_eq
        have kk8 : z_KT (fun t => t = (mr, 0) ∨ t = (mr, 1) ∨ t = (mr + 1, pi) ∨ t = (mr + 1, R.1)) h h8 := kk2.tr (by rw [← hh8]; exact z_KT.put f2_ad_pi (by first | decide | simp | omega))
        refine lv_aload_n hx hb d_NodeRow_append_78 rfl (lv_at hl 1 rfl) ?_
        refine z_get hx hb hts (z_lay i_NodeRow) hown hK hw f8_w rfl 0 (by decide) (z_in k_134 rfl) (fun _ h9 => h9) rfl d_NodeRow_append_79 ?_
        refine lv_aload_n hx hb d_NodeRow_append_82 rfl (lv_at hl 1 rfl) ?_
        refine z_get hx hb hts (z_lay i_NodeRow) hown hK hw f8_w rfl 1 (by decide) (z_in k_135 rfl) (fun _ h9 => h9) rfl d_NodeRow_append_83 ?_
        refine z_new (ci := 6) (fs := [.int 0, .int 0, .long 0, .null, .int 0, .int 0, .int 0]) hx hb hts (z_lay i_Node) t_Node t_Node_ok hown (z_in k_89 rfl) (z_in k_95 rfl) (z_in k_6 rfl) hK hw hA rfl (fun j hj => by rcases (show j = 0 ∨ j = 1 ∨ j = 2 ∨ j = 3 ∨ j = 4 ∨ j = 5 ∨ j = 6 by omega) with rfl | rfl | rfl | rfl | rfl | rfl | rfl <;> rfl) (by first | exact Nat.le_of_ble_eq_true rfl | (dsimp only; omega) | omega) (by first | exact Nat.le_of_ble_eq_true rfl | (dsimp only; omega) | omega) d_NodeRow_append_86 (mr + 1, R.1) (fun nn H n_nn hw => ?_)
        obtain ⟨h9, hh9⟩ : ∃ x9, z_put h8 nn (mr + 1, R.1) (.inr (6, [.int 0, .int 0, .long 0, .null, .int 0, .int 0, .int 0])) = x9 := ⟨_, rfl⟩
        have hw : z_S g A s.heap h9 H locs := by rw [← hh9]; exact hw
        have ne_fd_nn : fd ≠ nn := fun z => by have z2 := f8_fd; rw [z, n_nn] at z2; cases z2
        have ne_tq_nn : tq ≠ nn := fun z => by have z2 := f8_tq; rw [z, n_nn] at z2; cases z2
        have ne_w_nn : w ≠ nn := fun z => by have z2 := f8_w; rw [z, n_nn] at z2; cases z2
        have ne_ra_nn : ra ≠ nn := fun z => by have z2 := f8_ra; rw [z, n_nn] at z2; cases z2
        have ne_ad_pi_nn : (ad pi) ≠ nn := fun z => by have z2 := f8_ad_pi; rw [z, n_nn] at z2; cases z2
        have f9_fd : h9 fd = some ((r + 1, fi), .inr (4, [.int (nI fi), .int ki, .int ty, .int gr, .ref na, .int co, .int re, .int de, .int rq9])) := by rw [← hh9]; exact z_keepN n_nn f8_fd
        have f9_tq : h9 tq = some ((mr + 2, R.1), .inl (g.2.1 0, lq.length, .inl fq)) := by rw [← hh9]; exact z_keepN n_nn f8_tq
        have f9_w : h9 w = some ((mr, 0), .inr (5, [.ref ra, .int (nI R.1), .int (nI (tbC R.2 R.1))])) := by rw [← hh9]; exact z_keepN n_nn f8_w
        have f9_ra : h9 ra = some ((mr, 1), .inl (g.2.1 4, 2000, .inr (.inr (.inr (.inr rf))))) := by rw [← hh9]; exact z_keepN n_nn f8_ra
        have f9_ad_pi : h9 (ad pi) = some ((mr + 1, pi), .inr (6, [.int (ndFi (R.2 pi)), .int (ndPa (R.2 pi)), .long (ndNu (R.2 pi)), .ref (tx pi), .int (nI ((chC R.2 (nI pi) R.1) + 1)), .int (nI fi), .int (nI ((rtC S R.2 (nI pi) R.1) + 1))])) := by rw [← hh9]; exact z_keepN n_nn f8_ad_pi
        have f9_nn : h9 nn = some ((mr + 1, R.1), .inr (6, [.int 0, .int 0, .long 0, .null, .int 0, .int 0, .int 0])) := by rw [← hh9]; exact z_put_eq
        have kk9 : z_KT (fun t => t = (mr, 0) ∨ t = (mr, 1) ∨ t = (mr + 1, pi) ∨ t = (mr + 1, R.1)) h h9 := kk8.tr (by rw [← hh9]; exact z_KT.new n_nn)
        refine lv_dup hx hb d_NodeRow_append_89 rfl ?_
        refine lv_aload_n hx hb d_NodeRow_append_90 rfl (lv_at hl 3 rfl) ?_
        refine z_getN hx hb hts (z_lay i_Field) hown hK hw f9_fd rfl 0 (by decide) hE.nest (z_inN k_402 rfl) (fun _ h9 => h9) rfl d_NodeRow_append_91 ?_
        refine lv_iload_n hx hb d_NodeRow_append_94 rfl (lv_at hl 2 rfl) ?_
        refine lv_lload_n hx hb d_NodeRow_append_95 rfl (lv_at hl 4 rfl) ?_
        refine lv_aload hx hb d_NodeRow_append_96 (lv_at hl 5 rfl) ?_
        refine z_callI (n := 4) (As := [.int (nI fi), .int (nI pi), .long nu, .ref tq]) (rest := [.ref nn, .int (nI R.1), .ref ra]) ⟨hx, hb, hml, hown, hts⟩ (c_Node_init l g h9 f9_nn) (z_in k_100 rfl) (z_in k_6 rfl) (z_in k_98 rfl) (z_in k_99 rfl) rfl (by decide +kernel) ⟨by first | exact Nat.le_of_ble_eq_true rfl | (dsimp only; omega) | omega, by first | exact Nat.le_of_ble_eq_true rfl | (dsimp only; omega) | omega⟩ hK hE hw hA rfl hl.1 (Nat.le_of_ble_eq_true rfl) d_NodeRow_append_98 ⟨by first | exact Nat.le_of_ble_eq_true rfl | (dsimp only; omega) | omega, by first | exact Nat.le_of_ble_eq_true rfl | (dsimp only; omega) | omega⟩ rfl (fun r9 h9 H locs hp hw => ?_)
        obtain ⟨r8, hh10⟩ := hp
        subst r8
        obtain ⟨h10, e8⟩ : ∃ x9, x9 = h9 := ⟨_, rfl⟩
        subst e8
        have f10_fd : h10 fd = some ((r + 1, fi), .inr (4, [.int (nI fi), .int ki, .int ty, .int gr, .ref na, .int co, .int re, .int de, .int rq9])) := by rw [← hh10]; exact (z_put_ne ne_fd_nn).trans f9_fd
        have f10_tq : h10 tq = some ((mr + 2, R.1), .inl (g.2.1 0, lq.length, .inl fq)) := by rw [← hh10]; exact (z_put_ne ne_tq_nn).trans f9_tq
        have f10_w : h10 w = some ((mr, 0), .inr (5, [.ref ra, .int (nI R.1), .int (nI (tbC R.2 R.1))])) := by rw [← hh10]; exact (z_put_ne ne_w_nn).trans f9_w
        have f10_ra : h10 ra = some ((mr, 1), .inl (g.2.1 4, 2000, .inr (.inr (.inr (.inr rf))))) := by rw [← hh10]; exact (z_put_ne ne_ra_nn).trans f9_ra
        have f10_ad_pi : h10 (ad pi) = some ((mr + 1, pi), .inr (6, [.int (ndFi (R.2 pi)), .int (ndPa (R.2 pi)), .long (ndNu (R.2 pi)), .ref (tx pi), .int (nI ((chC R.2 (nI pi) R.1) + 1)), .int (nI fi), .int (nI ((rtC S R.2 (nI pi) R.1) + 1))])) := by rw [← hh10]; exact (z_put_ne ne_ad_pi_nn).trans f9_ad_pi
        have f10_nn : h10 nn = some ((mr + 1, R.1), .inr (6, [.int (nI fi), .int (nI pi), .long nu, .ref tq, .int 0, .int (-1), .int 0])) := by rw [← hh10]; exact z_put_eq
        have kk10 : z_KT (fun t => t = (mr, 0) ∨ t = (mr, 1) ∨ t = (mr + 1, pi) ∨ t = (mr + 1, R.1)) h h10 := kk9.tr (by rw [← hh10]; exact z_KT.put f9_nn (by first | decide | simp | omega))
        refine W.eq (g2 := F0 m 101 ls [.ref nn, .int (nI R.1), .ref ra]) rfl ?_
        refine z_astq hx hb hK hw f10_ra 4 rfl f10_nn rfl (vp_in_nI (by omega) (by omega)) d_NodeRow_append_101 (fun H locs hw => ?_)
        rw [nI_clamp (by omega)] at hw
        obtain ⟨h11, hh11⟩ : ∃ x9, z_put h10 ra (mr, 1) (.inl (g.2.1 4, 2000, .inr (.inr (.inr (.inr (va_up rf R.1 (some nn))))))) = x9 := ⟨_, rfl⟩
        have hw : z_S g A s.heap h11 H locs := by rw [← hh11]; exact hw
        have f11_fd : h11 fd = some ((r + 1, fi), .inr (4, [.int (nI fi), .int ki, .int ty, .int gr, .ref na, .int co, .int re, .int de, .int rq9])) := by rw [← hh11]; exact z_keep f10_ra f10_fd (z_t1 (by omega))
        have f11_tq : h11 tq = some ((mr + 2, R.1), .inl (g.2.1 0, lq.length, .inl fq)) := by rw [← hh11]; exact z_keep f10_ra f10_tq (z_t1 (by omega))
        have f11_w : h11 w = some ((mr, 0), .inr (5, [.ref ra, .int (nI R.1), .int (nI (tbC R.2 R.1))])) := by rw [← hh11]; exact z_keep f10_ra f10_w (z_t2 (by omega))
        have f11_ra : h11 ra = some ((mr, 1), .inl (g.2.1 4, 2000, .inr (.inr (.inr (.inr (va_up rf R.1 (some nn))))))) := by rw [← hh11]; exact z_put_eq
        have f11_ad_pi : h11 (ad pi) = some ((mr + 1, pi), .inr (6, [.int (ndFi (R.2 pi)), .int (ndPa (R.2 pi)), .long (ndNu (R.2 pi)), .ref (tx pi), .int (nI ((chC R.2 (nI pi) R.1) + 1)), .int (nI fi), .int (nI ((rtC S R.2 (nI pi) R.1) + 1))])) := by rw [← hh11]; exact z_keep f10_ra f10_ad_pi (z_t1 (by omega))
        have f11_nn : h11 nn = some ((mr + 1, R.1), .inr (6, [.int (nI fi), .int (nI pi), .long nu, .ref tq, .int 0, .int (-1), .int 0])) := by rw [← hh11]; exact (z_put_ne (Ne.symm ne_ra_nn)).trans f10_nn
        have kk11 : z_KT (fun t => t = (mr, 0) ∨ t = (mr, 1) ∨ t = (mr + 1, pi) ∨ t = (mr + 1, R.1)) h h11 := kk10.tr (by rw [← hh11]; exact z_KT.put f10_ra (by first | decide | simp | omega))
        refine lv_aload_n hx hb d_NodeRow_append_102 rfl (lv_at hl 1 rfl) ?_
        refine lv_dup hx hb d_NodeRow_append_103 rfl ?_
        refine z_get hx hb hts (z_lay i_NodeRow) hown hK hw f11_w rfl 2 (by decide) (z_in k_138 rfl) (fun _ h9 => h9) rfl d_NodeRow_append_104 ?_
        refine lv_aload hx hb d_NodeRow_append_107 (lv_at hl 5 rfl) ?_
        refine z_alen hx hb hK hw f11_tq 0 rfl d_NodeRow_append_109 ?_
        refine lv_iadd hx hb d_NodeRow_append_110 ?_
        refine z_topi (y := nI ((tbC R.2 R.1) + lq.length)) (nI_add (tbC R.2 R.1) lq.length) ?_
        refine z_putf (ty := .int) hx hb hts (z_lay i_NodeRow) t_NodeRow t_NodeRow_ok n_NodeRow hown hK hw f11_w rfl 2 (by decide) (z_in k_138 rfl) (fun _ h9 => h9) rfl (by decide +kernel) rfl rfl (Nat.le_of_ble_eq_true rfl) d_NodeRow_append_111 (fun H locs hw => ?_)
        obtain ⟨h12, hh12⟩ : ∃ x9, z_put h11 w (mr, 0) (.inr (5, [.ref ra, .int (nI R.1), .int (nI ((tbC R.2 R.1) + lq.length))])) = x9 := ⟨_, rfl⟩
        have hw : z_S g A s.heap h12 H locs := by rw [← hh12]; exact hw
        have f12_fd : h12 fd = some ((r + 1, fi), .inr (4, [.int (nI fi), .int ki, .int ty, .int gr, .ref na, .int co, .int re, .int de, .int rq9])) := by rw [← hh12]; exact z_keep f11_w f11_fd (z_t1 (by omega))
        have f12_tq : h12 tq = some ((mr + 2, R.1), .inl (g.2.1 0, lq.length, .inl fq)) := by rw [← hh12]; exact z_keep f11_w f11_tq (z_t1 (by omega))
        have f12_w : h12 w = some ((mr, 0), .inr (5, [.ref ra, .int (nI R.1), .int (nI ((tbC R.2 R.1) + lq.length))])) := by rw [← hh12]; exact z_put_eq
        have f12_ra : h12 ra = some ((mr, 1), .inl (g.2.1 4, 2000, .inr (.inr (.inr (.inr (va_up rf R.1 (some nn))))))) := by rw [← hh12]; exact z_keep f11_w f11_ra (z_t2 (by omega))
        have f12_ad_pi : h12 (ad pi) = some ((mr + 1, pi), .inr (6, [.int (ndFi (R.2 pi)), .int (ndPa (R.2 pi)), .long (ndNu (R.2 pi)), .ref (tx pi), .int (nI ((chC R.2 (nI pi) R.1) + 1)), .int (nI fi), .int (nI ((rtC S R.2 (nI pi) R.1) + 1))])) := by rw [← hh12]; exact z_keep f11_w f11_ad_pi (z_t1 (by omega))
        have f12_nn : h12 nn = some ((mr + 1, R.1), .inr (6, [.int (nI fi), .int (nI pi), .long nu, .ref tq, .int 0, .int (-1), .int 0])) := by rw [← hh12]; exact (z_put_ne (Ne.symm ne_w_nn)).trans f11_nn
        have kk12 : z_KT (fun t => t = (mr, 0) ∨ t = (mr, 1) ∨ t = (mr + 1, pi) ∨ t = (mr + 1, R.1)) h h12 := kk11.tr (by rw [← hh12]; exact z_KT.put f11_w (by first | decide | simp | omega))
        refine lv_aload_n hx hb d_NodeRow_append_114 rfl (lv_at hl 1 rfl) ?_
        refine lv_dup hx hb d_NodeRow_append_115 rfl ?_
        refine z_get hx hb hts (z_lay i_NodeRow) hown hK hw f12_w rfl 1 (by decide) (z_in k_135 rfl) (fun _ h9 => h9) rfl d_NodeRow_append_116 ?_
        refine lv_iconst (v := 1) hx hb d_NodeRow_append_119 (by decide) ?_
        refine lv_iadd hx hb d_NodeRow_append_120 ?_
        refine z_topi (y := nI (R.1 + 1)) (nI_add R.1 1) ?_
        refine z_putf (ty := .int) hx hb hts (z_lay i_NodeRow) t_NodeRow t_NodeRow_ok n_NodeRow hown hK hw f12_w rfl 1 (by decide) (z_in k_135 rfl) (fun _ h9 => h9) rfl (by decide +kernel) rfl rfl (Nat.le_of_ble_eq_true rfl) d_NodeRow_append_121 (fun H locs hw => ?_)
        obtain ⟨h13, hh13⟩ : ∃ x9, z_put h12 w (mr, 0) (.inr (5, [.ref ra, .int (nI (R.1 + 1)), .int (nI ((tbC R.2 R.1) + lq.length))])) = x9 := ⟨_, rfl⟩
        have hw : z_S g A s.heap h13 H locs := by rw [← hh13]; exact hw
        have f13_fd : h13 fd = some ((r + 1, fi), .inr (4, [.int (nI fi), .int ki, .int ty, .int gr, .ref na, .int co, .int re, .int de, .int rq9])) := by rw [← hh13]; exact z_keep f12_w f12_fd (z_t1 (by omega))
        have f13_tq : h13 tq = some ((mr + 2, R.1), .inl (g.2.1 0, lq.length, .inl fq)) := by rw [← hh13]; exact z_keep f12_w f12_tq (z_t1 (by omega))
        have f13_w : h13 w = some ((mr, 0), .inr (5, [.ref ra, .int (nI (R.1 + 1)), .int (nI ((tbC R.2 R.1) + lq.length))])) := by rw [← hh13]; exact z_put_eq
        have f13_ra : h13 ra = some ((mr, 1), .inl (g.2.1 4, 2000, .inr (.inr (.inr (.inr (va_up rf R.1 (some nn))))))) := by rw [← hh13]; exact z_keep f12_w f12_ra (z_t2 (by omega))
        have f13_ad_pi : h13 (ad pi) = some ((mr + 1, pi), .inr (6, [.int (ndFi (R.2 pi)), .int (ndPa (R.2 pi)), .long (ndNu (R.2 pi)), .ref (tx pi), .int (nI ((chC R.2 (nI pi) R.1) + 1)), .int (nI fi), .int (nI ((rtC S R.2 (nI pi) R.1) + 1))])) := by rw [← hh13]; exact z_keep f12_w f12_ad_pi (z_t1 (by omega))
        have f13_nn : h13 nn = some ((mr + 1, R.1), .inr (6, [.int (nI fi), .int (nI pi), .long nu, .ref tq, .int 0, .int (-1), .int 0])) := by rw [← hh13]; exact (z_put_ne (Ne.symm ne_w_nn)).trans f12_nn
        have kk13 : z_KT (fun t => t = (mr, 0) ∨ t = (mr, 1) ∨ t = (mr + 1, pi) ∨ t = (mr + 1, R.1)) h h13 := kk12.tr (by rw [← hh13]; exact z_KT.put f12_w (by first | decide | simp | omega))
        refine lv_aload_n hx hb d_NodeRow_append_124 rfl (lv_at hl 1 rfl) ?_
        refine z_get hx hb hts (z_lay i_NodeRow) hown hK hw f13_w rfl 1 (by decide) (z_in k_135 rfl) (fun _ h9 => h9) rfl d_NodeRow_append_125 ?_
        refine lv_iconst (v := 1) hx hb d_NodeRow_append_128 (by decide) ?_
        refine lv_isub hx hb d_NodeRow_append_129 ?_
        refine z_topi (y := nI ((R.1 + 1) - 1)) (pk_sub (a := R.1 + 1) (b := 1) (by omega)) ?_
        exact z_iret hx hb hr hlocks hw (by
    have z := hN.add (l := lq) (nu := nu) (fq := fq) hpa hpi hsz (by omega) (by simpa using htb9) (by simpa using f13_w) f13_ra f13_nn (by rw [← hki, if_pos c_64]; exact f13_ad_pi) (fun i hi e => (kk13 _ _ _ (hnd i hi).2 (by simp; omega)).trans (hnd i hi).2.symm) (fun i hi => (htx i hi).kt kk13 (by simp)) (Or.inr ⟨f13_tq, hlq.1, hlq.2⟩)
    exact ⟨nn, rfl, z.1, z.2, kk13⟩) (by decide) (by decide) d_NodeRow_append_130
    · -- 35: False
      have c_35 : ¬ (((tbC R.2 R.1) + lq.length) ≤ 16000) := fun z => c_35 ((nI_leI (a := (tbC R.2 R.1) + lq.length) (b := 16000) (by omega) (by omega)).mpr z)
      omega

set_option maxHeartbeats 4000000 in
set_option maxRecDepth 100000 in
theorem c_append_fullT (l : Launch) (g : z_G) (h : z_H) {mr w : Nat} {S : Sch} {R : Rec} {ra : Nat} {ad tx : Nat → Nat} {rf : Nat → Option Nat} {tf : Nat → Nat → Int32} {pi fi fd na r : Nat} {nu : Int64} {ki ty gr co re de rq9 : Int32} {tq : Nat} {lq : List Nat} {fq : Nat → Int32} (hfd : h fd = some ((r + 1, fi), .inr (4, [.int (nI fi), .int ki, .int ty, .int gr, .ref na, .int co, .int re, .int de, .int rq9]))) (htq : h tq = some ((mr + 2, R.1), .inl (g.2.1 0, lq.length, .inl fq))) (hN : NdP g h mr w S R ra ad tx rf tf) (hpi : pi < R.1) (hno : ¬ R.1 < 2000 ∨ 16000 < tbC R.2 R.1 + lq.length) (hlq : lq.length ≤ 255) : z_C l y_NodeRow_append prog_5_method_4_code 7 (Option.some Jvm.ClassFile.FieldType.int) 2 50 1 7 g [.ref w, .int (nI pi), .ref fd, .long nu, .ref tq] h (fun x h1 => x = some (.int (-1)) ∧ h = h1) := by
  refine z_C.of (by decide) (Nat.le_of_ble_eq_true rfl) (fun pg en s m below meth cd A ls hx hb hml hr hts hown hlocks hnm hK hE hA hw hl => ?_)
  have hl : lv_has ls 7 [(0, .ref w), (1, .int (nI pi)), (2, .ref fd), (3, .long nu), (5, .ref tq)] := hl
  obtain ⟨hww, hra, hnd, htx, hs1, hs2, htb⟩ := id hN
  have hpn := (hnd pi hpi).2
  refine lv_aload_n hx hb d_NodeRow_append_0 rfl (lv_at hl 0 rfl) ?_
  refine lv_iload_n hx hb d_NodeRow_append_1 rfl (lv_at hl 1 rfl) ?_
  refine z_callV (n := 1) (As := [.int (nI pi)]) (rest := []) ⟨hx, hb, hml, hown, hts⟩ (c_nodeAt l g h hN hpi) (z_in k_563 rfl) (z_in k_5 rfl) (z_in k_560 rfl) (z_in k_561 rfl) (z_in k_562 rfl) (by decide +kernel) ⟨by first | exact Nat.le_of_ble_eq_true rfl | (dsimp only; omega) | omega, by first | exact Nat.le_of_ble_eq_true rfl | (dsimp only; omega) | omega⟩ hK hE hw hA rfl hww rfl hl.1 (Nat.le_of_ble_eq_true rfl) d_NodeRow_append_2 ⟨by first | exact Nat.le_of_ble_eq_true rfl | (dsimp only; omega) | omega, by first | exact Nat.le_of_ble_eq_true rfl | (dsimp only; omega) | omega⟩ rfl (fun r9 h9 H locs hp hw => ?_)
  obtain ⟨r8, h8⟩ := hp
  subst r8
  subst h8
  refine W.eq (g2 := F0 m 5 ls [.ref (ad pi)]) rfl ?_
  refine lv_astore (lv' := [(6, .ref (ad pi)), (0, .ref w), (1, .int (nI pi)), (2, .ref fd), (3, .long nu), (5, .ref tq)]) hx hb d_NodeRow_append_5 hl (by decide) rfl (fun ls hl => ?_)
  refine lv_aload hx hb d_NodeRow_append_7 (lv_at hl 0 rfl) ?_
  refine lv_ifnull hx hb d_NodeRow_append_9 ?_
  refine lv_aload_n hx hb d_NodeRow_append_12 rfl (lv_at hl 1 rfl) ?_
  refine z_get hx hb hts (z_lay i_NodeRow) hown hK hw hww rfl 1 (by decide) (z_in k_135 rfl) (fun _ h9 => h9) rfl d_NodeRow_append_13 ?_
  refine lv_aload_n hx hb d_NodeRow_append_16 rfl (lv_at hl 1 rfl) ?_
  refine z_get hx hb hts (z_lay i_NodeRow) hown hK hw hww rfl 0 (by decide) (z_in k_134 rfl) (fun _ h9 => h9) rfl d_NodeRow_append_17 ?_
  refine z_alen hx hb hK hw hra 4 rfl d_NodeRow_append_20 ?_
  refine lv_icmp_ge (tgt := 38) hx hb d_NodeRow_append_21 (by decide) (fun c_21 => ?_) (fun c_21 => ?_)
  · -- 21: True
    have c_21 : 2000 ≤ R.1 := (nI_leI (a := 2000) (b := R.1) (by omega) (by omega)).mp c_21
    refine lv_iconst (v := (-1)) hx hb d_NodeRow_append_38 (by decide) ?_
    exact z_iret hx hb hr hlocks hw ⟨rfl, rfl⟩ (by decide) (by decide) d_NodeRow_append_39
  · -- 21: False
    have c_21 : ¬ (2000 ≤ R.1) := fun z => c_21 ((nI_leI (a := 2000) (b := R.1) (by omega) (by omega)).mpr z)
    refine lv_aload_n hx hb d_NodeRow_append_24 rfl (lv_at hl 1 rfl) ?_
    refine z_get hx hb hts (z_lay i_NodeRow) hown hK hw hww rfl 2 (by decide) (z_in k_138 rfl) (fun _ h9 => h9) rfl d_NodeRow_append_25 ?_
    refine lv_aload hx hb d_NodeRow_append_28 (lv_at hl 5 rfl) ?_
    refine z_alen hx hb hK hw htq 0 rfl d_NodeRow_append_30 ?_
    refine lv_iadd hx hb d_NodeRow_append_31 ?_
    refine z_topi (y := nI ((tbC R.2 R.1) + lq.length)) (nI_add (tbC R.2 R.1) lq.length) ?_
    refine lv_sipush (v := 16000) hx hb d_NodeRow_append_32 (by decide) ?_
    refine lv_icmp_le (tgt := 40) hx hb d_NodeRow_append_35 (by decide) (fun c_35 => ?_) (fun c_35 => ?_)
    · -- 35: True
      have c_35 : ((tbC R.2 R.1) + lq.length) ≤ 16000 := (nI_leI (a := (tbC R.2 R.1) + lq.length) (b := 16000) (by omega) (by omega)).mp c_35
      omega
    · -- 35: False
      have c_35 : ¬ (((tbC R.2 R.1) + lq.length) ≤ 16000) := fun z => c_35 ((nI_leI (a := (tbC R.2 R.1) + lq.length) (b := 16000) (by omega) (by omega)).mpr z)
      refine lv_iconst (v := (-1)) hx hb d_NodeRow_append_38 (by decide) ?_
      exact z_iret hx hb hr hlocks hw ⟨rfl, rfl⟩ (by decide) (by decide) d_NodeRow_append_39

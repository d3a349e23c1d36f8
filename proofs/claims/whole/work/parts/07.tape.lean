theorem bp_b (x : Int32) : x.toInt8.toInt32 &&& 255 = x &&& 255 := by
  apply Int32.toBitVec_inj.mp
  rw [Int32.toBitVec_and, Int32.toBitVec_and, Int8.toBitVec_toInt32, Int32.toBitVec_toInt8]
  apply BitVec.eq_of_getLsbD_eq
  intro i hi
  rw [BitVec.getLsbD_and, BitVec.getLsbD_and]
  have hm : ∀ i < 32, 8 ≤ i → (255 : Int32).toBitVec.getLsbD i = false := by decide
  rcases Nat.lt_or_ge i 8 with z | z
  · rw [BitVec.getLsbD_signExtend, BitVec.getLsbD_signExtend, if_pos z, if_pos hi]
    simp only [z, hi, decide_true, Bool.true_and]
  · rw [hm i hi z]; simp
/-! ===== the char cast and 65535 ===== -/
theorem b255 (y : Int32) : ∃ c : Nat, c < 256 ∧ y &&& 255 = nI c ∧ y.toInt8.toInt32 = sb_b c := by
  obtain ⟨c, hc, e⟩ := pk_andE y (m := 255) 8 (by decide)
  refine ⟨c, by omega, e, ?_⟩
  have h1 := bp_b y
  have h2 : (y.toInt8.toInt32).toInt8.toInt32 = y.toInt8.toInt32 := by simp
  exact (sc_eq h2 (by omega)).mpr (h1.trans e)
/-- the j-th byte of a number, the highest first -/
def by4 (x : Int32) (j : Nat) : Nat := ((x >>> (nI (24 - 8 * j) &&& 31)) &&& 255).toNatClampNeg
theorem by4_lt (x : Int32) (j : Nat) : by4 x j < 256 := by
  obtain ⟨c, hc, e, -⟩ := b255 (x >>> (nI (24 - 8 * j) &&& 31))
  unfold by4
  rw [e, nI_clamp (by omega)]
  exact hc
theorem by4_b (x : Int32) (j : Nat) : (x >>> (nI (24 - 8 * j) &&& 31)).toInt8.toInt32 = sb_b (by4 x j) := by
  obtain ⟨c, hc, e, e2⟩ := b255 (x >>> (nI (24 - 8 * j) &&& 31))
  unfold by4
  rw [e, nI_clamp (by omega)]
  exact e2
theorem by4_i (x : Int32) (j : Nat) : (x >>> (nI (24 - 8 * j) &&& 31)) &&& 255 = nI (by4 x j) := by
  obtain ⟨c, hc, e, e2⟩ := b255 (x >>> (nI (24 - 8 * j) &&& 31))
  unfold by4
  rw [e, nI_clamp (by omega)]

set_option maxHeartbeats 4000000 in
set_option maxRecDepth 100000 in
theorem c_Tape_hasRoom (l : Launch) (g : z_G) (h : z_H) {tp b n : Nat} {f : Nat → Int32} (htp : h tp = some ((2, 0), .inr (1, [.ref b, .int (nI n)]))) (hb0 : h b = some ((3, 0), .inl (g.2.1 0, 4000, .inl f))) (hn : n ≤ 4000) : z_C l y_Tape_hasRoom prog_11_method_2_code 1 (Option.some Jvm.ClassFile.FieldType.boolean) 0 0 0 0 g [.ref tp] h (fun r h1 => r = some (.int (zb (decide (n + 20 ≤ 4000)))) ∧ h = h1) := by
  refine z_C.of (by decide) (Nat.le_of_ble_eq_true rfl) (fun pg en s m below meth cd A ls hx hb hml hr hts hown hlocks hnm hK hE hA hw hl => ?_)
  have hl : lv_has ls 1 [(0, .ref tp)] := hl
  refine lv_aload_n hx hb d_Tape_hasRoom_0 rfl (lv_at hl 0 rfl) ?_
  refine z_get hx hb hts (z_lay i_Tape) hown hK hw htp rfl 1 (by decide) (z_in k_35 rfl) (fun _ h9 => h9) rfl d_Tape_hasRoom_1 ?_
  refine lv_bipush (v := 20) hx hb d_Tape_hasRoom_4 (by decide) ?_
  refine lv_iadd hx hb d_Tape_hasRoom_6 ?_
  refine z_topi (y := nI (n + 20)) (nI_add n 20) ?_
  refine lv_aload_n hx hb d_Tape_hasRoom_7 rfl (lv_at hl 0 rfl) ?_
  refine z_get hx hb hts (z_lay i_Tape) hown hK hw htp rfl 0 (by decide) (z_in k_34 rfl) (fun _ h9 => h9) rfl d_Tape_hasRoom_8 ?_
  refine z_alen hx hb hK hw hb0 0 rfl d_Tape_hasRoom_11 ?_
  refine lv_icmp_gt (tgt := 19) hx hb d_Tape_hasRoom_12 (by decide) (fun c_12 => ?_) (fun c_12 => ?_)
  · -- 12: True
    have c_12 : 4000 < (n + 20) := (nI_ltI (a := 4000) (b := n + 20) (by omega) (by omega)).mp c_12
    refine lv_iconst (v := 0) hx hb d_Tape_hasRoom_19 (by decide) ?_
    exact z_zret hx hb hr rfl hlocks hw (by refine ⟨congrArg some (congrArg Value.int ?_), rfl⟩; first | exact (zb_1 (decide_eq_true (by omega))).symm | exact (zb_0 (decide_eq_false (by omega))).symm) (by decide) (by decide) d_Tape_hasRoom_20
  · -- 12: False
    have c_12 : ¬ (4000 < (n + 20)) := fun z => c_12 ((nI_ltI (a := 4000) (b := n + 20) (by omega) (by omega)).mpr z)
    refine lv_iconst (v := 1) hx hb d_Tape_hasRoom_15 (by decide) ?_
    refine lv_goto (tgt := 20) hx hb d_Tape_hasRoom_16 (by decide) ?_
    exact z_zret hx hb hr rfl hlocks hw (by refine ⟨congrArg some (congrArg Value.int ?_), rfl⟩; first | exact (zb_1 (decide_eq_true (by omega))).symm | exact (zb_0 (decide_eq_false (by omega))).symm) (by decide) (by decide) d_Tape_hasRoom_20

set_option maxHeartbeats 4000000 in
set_option maxRecDepth 100000 in
theorem c_Tape_putFour (l : Launch) (g : z_G) (h : z_H) {tp b n : Nat} {f : Nat → Int32} {x : Int32} (htp : h tp = some ((2, 0), .inr (1, [.ref b, .int (nI n)]))) (hb0 : h b = some ((3, 0), .inl (g.2.1 0, 4000, .inl f))) (hn : n + 4 ≤ 4000) : z_C l y_Tape_putFour prog_11_method_3_code 3 (Option.none : Option Jvm.ClassFile.FieldType) 0 0 0 0 g [.ref tp, .int x] h (fun r h1 => r = none ∧ h1 tp = some ((2, 0), .inr (1, [.ref b, .int (nI (n + 4))])) ∧ h1 b = some ((3, 0), .inl (g.2.1 0, 4000, .inl (upd (upd (upd (upd f n (sb_b (by4 x 0))) (n + 1) (sb_b (by4 x 1))) (n + 2) (sb_b (by4 x 2))) (n + 3) (sb_b (by4 x 3))))) ∧ z_K (fun r => r = 2 ∨ r = 3) h h1) := by
  refine z_C.of (by decide) (Nat.le_of_ble_eq_true rfl) (fun pg en s m below meth cd A ls hx hb hml hr hts hown hlocks hnm hK hE hA hw hl => ?_)
  have hl : lv_has ls 3 [(0, .ref tp), (1, .int x)] := hl
  have kk0 : z_K (fun r => r = 2 ∨ r = 3) h h := z_K.rf
  refine lv_bipush (v := 24) hx hb d_Tape_putFour_0 (by decide) ?_
  refine lv_istore_n (lv' := [(2, .int 24), (0, .ref tp), (1, .int x)]) hx hb d_Tape_putFour_2 rfl hl (by decide) rfl (fun ls hl => ?_)
  refine lv_iload_n hx hb d_Tape_putFour_3 rfl (lv_at hl 0 rfl) ?_
  refine lv_if_lt (tgt := 48) hx hb d_Tape_putFour_4 (by decide) (fun c_4 => ?_) (fun c_4 => ?_)
  · -- 4: True
    exact absurd c_4 (by decide)
  · -- 4: False
    refine lv_aload_n hx hb d_Tape_putFour_7 rfl (lv_at hl 1 rfl) ?_
    refine z_get hx hb hts (z_lay i_Tape) hown hK hw htp rfl 1 (by decide) (z_in k_35 rfl) (fun _ h9 => h9) rfl d_Tape_putFour_8 ?_
    refine lv_aload_n hx hb d_Tape_putFour_11 rfl (lv_at hl 1 rfl) ?_
    refine z_get hx hb hts (z_lay i_Tape) hown hK hw htp rfl 0 (by decide) (z_in k_34 rfl) (fun _ h9 => h9) rfl d_Tape_putFour_12 ?_
    refine z_alen hx hb hK hw hb0 0 rfl d_Tape_putFour_15 ?_
    refine lv_icmp_ge (tgt := 42) hx hb d_Tape_putFour_16 (by decide) (fun c_16 => ?_) (fun c_16 => ?_)
    · -- 16: True
      have c_16 : 4000 ≤ n := (nI_leI (a := 4000) (b := n) (by omega) (by omega)).mp c_16
      omega
    · -- 16: False
      have c_16 : ¬ (4000 ≤ n) := fun z => c_16 ((nI_leI (a := 4000) (b := n) (by omega) (by omega)).mpr z)
      refine lv_aload_n hx hb d_Tape_putFour_19 rfl (lv_at hl 1 rfl) ?_
      refine z_get hx hb hts (z_lay i_Tape) hown hK hw htp rfl 0 (by decide) (z_in k_34 rfl) (fun _ h9 => h9) rfl d_Tape_putFour_20 ?_
      refine lv_aload_n hx hb d_Tape_putFour_23 rfl (lv_at hl 1 rfl) ?_
      refine z_get hx hb hts (z_lay i_Tape) hown hK hw htp rfl 1 (by decide) (z_in k_35 rfl) (fun _ h9 => h9) rfl d_Tape_putFour_24 ?_
      refine lv_iload_n hx hb d_Tape_putFour_27 rfl (lv_at hl 2 rfl) ?_
      refine lv_iload_n hx hb d_Tape_putFour_28 rfl (lv_at hl 0 rfl) ?_
      refine lv_ishr hx hb d_Tape_putFour_29 ?_
      refine lv_i2b hx hb d_Tape_putFour_30 rfl ?_
      refine z_bast hx hb hK hw hb0 0 rfl (vp_in_nI (by omega) (by omega)) d_Tape_putFour_31 (fun H locs hw => ?_)
      rw [nI_clamp (by omega)] at hw
      rw [show (x >>> (24 &&& 31)).toInt8.toInt32 = sb_b (by4 x 0) from by4_b x 0, vp_nar_byte, show (sb_b (by4 x 0)).toInt8.toInt32 = sb_b (by4 x 0) from by unfold sb_b; simp] at hw
      obtain ⟨h1, hh1⟩ : ∃ x9, z_put h b (3, 0) (.inl (g.2.1 0, 4000, .inl (upd f n (sb_b (by4 x 0))))) = x9 := ⟨_, rfl⟩
      have hw : z_S g A s.heap h1 H locs := by rw [← hh1]; exact hw
      have f1_tp : h1 tp = some ((2, 0), .inr (1, [.ref b, .int (nI n)])) := by rw [← hh1]; exact z_keep hb0 htp (z_t1 (by decide))
      have f1_b : h1 b = some ((3, 0), .inl (g.2.1 0, 4000, .inl (upd f n (sb_b (by4 x 0))))) := by rw [← hh1]; exact z_put_eq
      have kk1 : z_K (fun r => r = 2 ∨ r = 3) h h1 := kk0.tr (by rw [← hh1]; exact z_K.put hb0 (by first | decide | simp | omega))
      refine lv_aload_n hx hb d_Tape_putFour_32 rfl (lv_at hl 1 rfl) ?_
      refine lv_dup hx hb d_Tape_putFour_33 rfl ?_
      refine z_get hx hb hts (z_lay i_Tape) hown hK hw f1_tp rfl 1 (by decide) (z_in k_35 rfl) (fun _ h9 => h9) rfl d_Tape_putFour_34 ?_
      refine lv_iconst (v := 1) hx hb d_Tape_putFour_37 (by decide) ?_
      refine lv_iadd hx hb d_Tape_putFour_38 ?_
      refine z_topi (y := nI (n + 1)) (nI_add n 1) ?_
      refine z_putf (ty := .int) hx hb hts (z_lay i_Tape) t_Tape t_Tape_ok n_Tape hown hK hw f1_tp rfl 1 (by decide) (z_in k_35 rfl) (fun _ h9 => h9) rfl (by decide +kernel) rfl rfl (Nat.le_of_ble_eq_true rfl) d_Tape_putFour_39 (fun H locs hw => ?_)
      obtain ⟨h2, hh2⟩ : ∃ x9, z_put h1 tp (2, 0) (.inr (1, [.ref b, .int (nI (n + 1))])) = x9 := ⟨_, rfl⟩
      have hw : z_S g A s.heap h2 H locs := by rw [← hh2]; exact hw
      have f2_tp : h2 tp = some ((2, 0), .inr (1, [.ref b, .int (nI (n + 1))])) := by rw [← hh2]; exact z_put_eq
      have f2_b : h2 b = some ((3, 0), .inl (g.2.1 0, 4000, .inl (upd f n (sb_b (by4 x 0))))) := by rw [← hh2]; exact z_keep f1_tp f1_b (z_t1 (by decide))
      have kk2 : z_K (fun r => r = 2 ∨ r = 3) h h2 := kk1.tr (by rw [← hh2]; exact z_K.put f1_tp (by first | decide | simp | omega))
      refine lv_iinc (v := 16) (lv' := [(2, .int 16), (0, .ref tp), (1, .int x)]) hx hb d_Tape_putFour_42 hl (k := 0) rfl (by decide) (by decide) rfl (fun ls hl => ?_)
      refine lv_goto (tgt := 3) hx hb d_Tape_putFour_45 (by decide) ?_
      refine lv_iload_n hx hb d_Tape_putFour_3 rfl (lv_at hl 0 rfl) ?_
      refine lv_if_lt (tgt := 48) hx hb d_Tape_putFour_4 (by decide) (fun c_4 => ?_) (fun c_4 => ?_)
      · -- 4: True
        exact absurd c_4 (by decide)
      · -- 4: False
        refine lv_aload_n hx hb d_Tape_putFour_7 rfl (lv_at hl 1 rfl) ?_
        refine z_get hx hb hts (z_lay i_Tape) hown hK hw f2_tp rfl 1 (by decide) (z_in k_35 rfl) (fun _ h9 => h9) rfl d_Tape_putFour_8 ?_
        refine lv_aload_n hx hb d_Tape_putFour_11 rfl (lv_at hl 1 rfl) ?_
        refine z_get hx hb hts (z_lay i_Tape) hown hK hw f2_tp rfl 0 (by decide) (z_in k_34 rfl) (fun _ h9 => h9) rfl d_Tape_putFour_12 ?_
        refine z_alen hx hb hK hw f2_b 0 rfl d_Tape_putFour_15 ?_
        refine lv_icmp_ge (tgt := 42) hx hb d_Tape_putFour_16 (by decide) (fun c_16 => ?_) (fun c_16 => ?_)
        · -- 16: True
          have c_16 : 4000 ≤ (n + 1) := (nI_leI (a := 4000) (b := n + 1) (by omega) (by omega)).mp c_16
          omega
        · -- 16: False
          have c_16 : ¬ (4000 ≤ (n + 1)) := fun z => c_16 ((nI_leI (a := 4000) (b := n + 1) (by omega) (by omega)).mpr z)
          refine lv_aload_n hx hb d_Tape_putFour_19 rfl (lv_at hl 1 rfl) ?_
          refine z_get hx hb hts (z_lay i_Tape) hown hK hw f2_tp rfl 0 (by decide) (z_in k_34 rfl) (fun _ h9 => h9) rfl d_Tape_putFour_20 ?_
          refine lv_aload_n hx hb d_Tape_putFour_23 rfl (lv_at hl 1 rfl) ?_
          refine z_get hx hb hts (z_lay i_Tape) hown hK hw f2_tp rfl 1 (by decide) (z_in k_35 rfl) (fun _ h9 => h9) rfl d_Tape_putFour_24 ?_
          refine lv_iload_n hx hb d_Tape_putFour_27 rfl (lv_at hl 2 rfl) ?_
          refine lv_iload_n hx hb d_Tape_putFour_28 rfl (lv_at hl 0 rfl) ?_
          refine lv_ishr hx hb d_Tape_putFour_29 ?_
          refine lv_i2b hx hb d_Tape_putFour_30 rfl ?_
          refine z_bast hx hb hK hw f2_b 0 rfl (vp_in_nI (by omega) (by omega)) d_Tape_putFour_31 (fun H locs hw => ?_)
          rw [nI_clamp (by omega)] at hw
          rw [show (x >>> (16 &&& 31)).toInt8.toInt32 = sb_b (by4 x 1) from by4_b x 1, vp_nar_byte, show (sb_b (by4 x 1)).toInt8.toInt32 = sb_b (by4 x 1) from by unfold sb_b; simp] at hw
          obtain ⟨h3, hh3⟩ : ∃ x9, z_put h2 b (3, 0) (.inl (g.2.1 0, 4000, .inl (upd (upd f n (sb_b (by4 x 0))) (n + 1) (sb_b (by4 x 1))))) = x9 := ⟨_, rfl⟩
          have hw : z_S g A s.heap h3 H locs := by rw [← hh3]; exact hw
          have f3_tp : h3 tp = some ((2, 0), .inr (1, [.ref b, .int (nI (n + 1))])) := by rw [← hh3]; exact z_keep f2_b f2_tp (z_t1 (by decide))
          have f3_b : h3 b = some ((3, 0), .inl (g.2.1 0, 4000, .inl (upd (upd f n (sb_b (by4 x 0))) (n + 1) (sb_b (by4 x 1))))) := by rw [← hh3]; exact z_put_eq
          have kk3 : z_K (fun r => r = 2 ∨ r = 3) h h3 := kk2.tr (by rw [← hh3]; exact z_K.put f2_b (by first | decide | simp | omega))
          refine lv_aload_n hx hb d_Tape_putFour_32 rfl (lv_at hl 1 rfl) ?_
          refine lv_dup hx hb d_Tape_putFour_33 rfl ?_
          refine z_get hx hb hts (z_lay i_Tape) hown hK hw f3_tp rfl 1 (by decide) (z_in k_35 rfl) (fun _ h9 => h9) rfl d_Tape_putFour_34 ?_
          refine lv_iconst (v := 1) hx hb d_Tape_putFour_37 (by decide) ?_
          refine lv_iadd hx hb d_Tape_putFour_38 ?_
          refine z_topi (y := nI ((n + 1) + 1)) (nI_add (n + 1) 1) ?_
          refine z_putf (ty := .int) hx hb hts (z_lay i_Tape) t_Tape t_Tape_ok n_Tape hown hK hw f3_tp rfl 1 (by decide) (z_in k_35 rfl) (fun _ h9 => h9) rfl (by decide +kernel) rfl rfl (Nat.le_of_ble_eq_true rfl) d_Tape_putFour_39 (fun H locs hw => ?_)
          obtain ⟨h4, hh4⟩ : ∃ x9, z_put h3 tp (2, 0) (.inr (1, [.ref b, .int (nI ((n + 1) + 1))])) = x9 := ⟨_, rfl⟩
          have hw : z_S g A s.heap h4 H locs := by rw [← hh4]; exact hw
          have f4_tp : h4 tp = some ((2, 0), .inr (1, [.ref b, .int (nI ((n + 1) + 1))])) := by rw [← hh4]; exact z_put_eq
          have f4_b : h4 b = some ((3, 0), .inl (g.2.1 0, 4000, .inl (upd (upd f n (sb_b (by4 x 0))) (n + 1) (sb_b (by4 x 1))))) := by rw [← hh4]; exact z_keep f3_tp f3_b (z_t1 (by decide))
          have kk4 : z_K (fun r => r = 2 ∨ r = 3) h h4 := kk3.tr (by rw [← hh4]; exact z_K.put f3_tp (by first | decide | simp | omega))
          refine lv_iinc (v := 8) (lv' := [(2, .int 8), (0, .ref tp), (1, .int x)]) hx hb d_Tape_putFour_42 hl (k := 0) rfl (by decide) (by decide) rfl (fun ls hl => ?_)
          refine lv_goto (tgt := 3) hx hb d_Tape_putFour_45 (by decide) ?_
          refine lv_iload_n hx hb d_Tape_putFour_3 rfl (lv_at hl 0 rfl) ?_
          refine lv_if_lt (tgt := 48) hx hb d_Tape_putFour_4 (by decide) (fun c_4 => ?_) (fun c_4 => ?_)
          · -- 4: True
            exact absurd c_4 (by decide)
          · -- 4: False
            refine lv_aload_n hx hb d_Tape_putFour_7 rfl (lv_at hl 1 rfl) ?_
            refine z_get hx hb hts (z_lay i_Tape) hown hK hw f4_tp rfl 1 (by decide) (z_in k_35 rfl) (fun _ h9 => h9) rfl d_Tape_putFour_8 ?_
            refine lv_aload_n hx hb d_Tape_putFour_11 rfl (lv_at hl 1 rfl) ?_
            refine z_get hx hb hts (z_lay i_Tape) hown hK hw f4_tp rfl 0 (by decide) (z_in k_34 rfl) (fun _ h9 => h9) rfl d_Tape_putFour_12 ?_
            refine z_alen hx hb hK hw f4_b 0 rfl d_Tape_putFour_15 ?_
            refine lv_icmp_ge (tgt := 42) hx hb d_Tape_putFour_16 (by decide) (fun c_16 => ?_) (fun c_16 => ?_)
            · -- 16: True
              have c_16 : 4000 ≤ ((n + 1) + 1) := (nI_leI (a := 4000) (b := (n + 1) + 1) (by omega) (by omega)).mp c_16
              omega
            · -- 16: False
              have c_16 : ¬ (4000 ≤ ((n + 1) + 1)) := fun z => c_16 ((nI_leI (a := 4000) (b := (n + 1) + 1) (by omega) (by omega)).mpr z)
              refine lv_aload_n hx hb d_Tape_putFour_19 rfl (lv_at hl 1 rfl) ?_
              refine z_get hx hb hts (z_lay i_Tape) hown hK hw f4_tp rfl 0 (by decide) (z_in k_34 rfl) (fun _ h9 => h9) rfl d_Tape_putFour_20 ?_
              refine lv_aload_n hx hb d_Tape_putFour_23 rfl (lv_at hl 1 rfl) ?_
              refine z_get hx hb hts (z_lay i_Tape) hown hK hw f4_tp rfl 1 (by decide) (z_in k_35 rfl) (fun _ h9 => h9) rfl d_Tape_putFour_24 ?_
              refine lv_iload_n hx hb d_Tape_putFour_27 rfl (lv_at hl 2 rfl) ?_
              refine lv_iload_n hx hb d_Tape_putFour_28 rfl (lv_at hl 0 rfl) ?_
              refine lv_ishr hx hb d_Tape_putFour_29 ?_
              refine lv_i2b hx hb d_Tape_putFour_30 rfl ?_
              refine z_bast hx hb hK hw f4_b 0 rfl (vp_in_nI (by omega) (by omega)) d_Tape_putFour_31 (fun H locs hw => ?_)
              rw [nI_clamp (by omega)] at hw
              rw [show (x >>> (8 &&& 31)).toInt8.toInt32 = sb_b (by4 x 2) from by4_b x 2, vp_nar_byte, show (sb_b (by4 x 2)).toInt8.toInt32 = sb_b (by4 x 2) from by unfold sb_b; simp] at hw
              obtain ⟨h5, hh5⟩ : ∃ x9, z_put h4 b (3, 0) (.inl (g.2.1 0, 4000, .inl (upd (upd (upd f n (sb_b (by4 x 0))) (n + 1) (sb_b (by4 x 1))) ((n + 1) + 1) (sb_b (by4 x 2))))) = x9 := ⟨_, rfl⟩
              have hw : z_S g A s.heap h5 H locs := by rw [← hh5]; exact hw
              have f5_tp : h5 tp = some ((2, 0), .inr (1, [.ref b, .int (nI ((n + 1) + 1))])) := by rw [← hh5]; exact z_keep f4_b f4_tp (z_t1 (by decide))
              have f5_b : h5 b = some ((3, 0), .inl (g.2.1 0, 4000, .inl (upd (upd (upd f n (sb_b (by4 x 0))) (n + 1) (sb_b (by4 x 1))) ((n + 1) + 1) (sb_b (by4 x 2))))) := by rw [← hh5]; exact z_put_eq
              have kk5 : z_K (fun r => r = 2 ∨ r = 3) h h5 := kk4.tr (by rw [← hh5]; exact z_K.put f4_b (by first | decide | simp | omega))
              refine lv_aload_n hx hb d_Tape_putFour_32 rfl (lv_at hl 1 rfl) ?_
              refine lv_dup hx hb d_Tape_putFour_33 rfl ?_
              refine z_get hx hb hts (z_lay i_Tape) hown hK hw f5_tp rfl 1 (by decide) (z_in k_35 rfl) (fun _ h9 => h9) rfl d_Tape_putFour_34 ?_
              refine lv_iconst (v := 1) hx hb d_Tape_putFour_37 (by decide) ?_
              refine lv_iadd hx hb d_Tape_putFour_38 ?_
              refine z_topi (y := nI (((n + 1) + 1) + 1)) (nI_add ((n + 1) + 1) 1) ?_
              refine z_putf (ty := .int) hx hb hts (z_lay i_Tape) t_Tape t_Tape_ok n_Tape hown hK hw f5_tp rfl 1 (by decide) (z_in k_35 rfl) (fun _ h9 => h9) rfl (by decide +kernel) rfl rfl (Nat.le_of_ble_eq_true rfl) d_Tape_putFour_39 (fun H locs hw => ?_)
              obtain ⟨h6, hh6⟩ : ∃ x9, z_put h5 tp (2, 0) (.inr (1, [.ref b, .int (nI (((n + 1) + 1) + 1))])) = x9 := ⟨_, rfl⟩
              have hw : z_S g A s.heap h6 H locs := by rw [← hh6]; exact hw
              have f6_tp : h6 tp = some ((2, 0), .inr (1, [.ref b, .int (nI (((n + 1) + 1) + 1))])) := by rw [← hh6]; exact z_put_eq
              have f6_b : h6 b = some ((3, 0), .inl (g.2.1 0, 4000, .inl (upd (upd (upd f n (sb_b (by4 x 0))) (n + 1) (sb_b (by4 x 1))) ((n + 1) + 1) (sb_b (by4 x 2))))) := by rw [← hh6]; exact z_keep f5_tp f5_b (z_t1 (by decide))
              have kk6 : z_K (fun r => r = 2 ∨ r = 3) h h6 := kk5.tr (by rw [← hh6]; exact z_K.put f5_tp (by first | decide | simp | omega))
              refine lv_iinc (v := 0) (lv' := [(2, .int 0), (0, .ref tp), (1, .int x)]) hx hb d_Tape_putFour_42 hl (k := 0) rfl (by decide) (by decide) rfl (fun ls hl => ?_)
              refine lv_goto (tgt := 3) hx hb d_Tape_putFour_45 (by decide) ?_
              refine lv_iload_n hx hb d_Tape_putFour_3 rfl (lv_at hl 0 rfl) ?_
              refine lv_if_lt (tgt := 48) hx hb d_Tape_putFour_4 (by decide) (fun c_4 => ?_) (fun c_4 => ?_)
              · -- 4: True
                exact absurd c_4 (by decide)
              · -- 4: False
                refine lv_aload_n hx hb d_Tape_putFour_7 rfl (lv_at hl 1 rfl) ?_
                refine z_get hx hb hts (z_lay i_Tape) hown hK hw f6_tp rfl 1 (by decide) (z_in k_35 rfl) (fun _ h9 => h9) rfl d_Tape_putFour_8 ?_
                refine lv_aload_n hx hb d_Tape_putFour_11 rfl (lv_at hl 1 rfl) ?_
                refine z_get hx hb hts (z_lay i_Tape) hown hK hw f6_tp rfl 0 (by decide) (z_in k_34 rfl) (fun _ h9 => h9) rfl d_Tape_putFour_12 ?_
                refine z_alen hx hb hK hw f6_b 0 rfl d_Tape_putFour_15 ?_
                refine lv_icmp_ge (tgt := 42) hx hb d_Tape_putFour_16 (by decide) (fun c_16 => ?_) (fun c_16 => ?_)
                · -- 16: True
                  have c_16 : 4000 ≤ (((n + 1) + 1) + 1) := (nI_leI (a := 4000) (b := ((n + 1) + 1) + 1) (by omega) (by omega)).mp c_16
                  omega
                · -- 16: False
                  have c_16 : ¬ (4000 ≤ (((n + 1) + 1) + 1)) := fun z => c_16 ((nI_leI (a := 4000) (b := ((n + 1) + 1) + 1) (by omega) (by omega)).mpr z)
                  refine lv_aload_n hx hb d_Tape_putFour_19 rfl (lv_at hl 1 rfl) ?_
                  refine z_get hx hb hts (z_lay i_Tape) hown hK hw f6_tp rfl 0 (by decide) (z_in k_34 rfl) (fun _ h9 => h9) rfl d_Tape_putFour_20 ?_
                  refine lv_aload_n hx hb d_Tape_putFour_23 rfl (lv_at hl 1 rfl) ?_
                  refine z_get hx hb hts (z_lay i_Tape) hown hK hw f6_tp rfl 1 (by decide) (z_in k_35 rfl) (fun _ h9 => h9) rfl d_Tape_putFour_24 ?_
                  refine lv_iload_n hx hb d_Tape_putFour_27 rfl (lv_at hl 2 rfl) ?_
                  refine lv_iload_n hx hb d_Tape_putFour_28 rfl (lv_at hl 0 rfl) ?_
                  refine lv_ishr hx hb d_Tape_putFour_29 ?_
                  refine lv_i2b hx hb d_Tape_putFour_30 rfl ?_
                  refine z_bast hx hb hK hw f6_b 0 rfl (vp_in_nI (by omega) (by omega)) d_Tape_putFour_31 (fun H locs hw => ?_)
                  rw [nI_clamp (by omega)] at hw
                  rw [show (x >>> (0 &&& 31)).toInt8.toInt32 = sb_b (by4 x 3) from by4_b x 3, vp_nar_byte, show (sb_b (by4 x 3)).toInt8.toInt32 = sb_b (by4 x 3) from by unfold sb_b; simp] at hw
                  obtain ⟨h7, hh7⟩ : ∃ x9, z_put h6 b (3, 0) (.inl (g.2.1 0, 4000, .inl (upd (upd (upd (upd f n (sb_b (by4 x 0))) (n + 1) (sb_b (by4 x 1))) ((n + 1) + 1) (sb_b (by4 x 2))) (((n + 1) + 1) + 1) (sb_b (by4 x 3))))) = x9 := ⟨_, rfl⟩
                  have hw : z_S g A s.heap h7 H locs := by rw [← hh7]; exact hw
                  have f7_tp : h7 tp = some ((2, 0), .inr (1, [.ref b, .int (nI (((n + 1) + 1) + 1))])) := by rw [← hh7]; exact z_keep f6_b f6_tp (z_t1 (by decide))
                  have f7_b : h7 b = some ((3, 0), .inl (g.2.1 0, 4000, .inl (upd (upd (upd (upd f n (sb_b (by4 x 0))) (n + 1) (sb_b (by4 x 1))) ((n + 1) + 1) (sb_b (by4 x 2))) (((n + 1) + 1) + 1) (sb_b (by4 x 3))))) := by rw [← hh7]; exact z_put_eq
                  have kk7 : z_K (fun r => r = 2 ∨ r = 3) h h7 := kk6.tr (by rw [← hh7]; exact z_K.put f6_b (by first | decide | simp | omega))
                  refine lv_aload_n hx hb d_Tape_putFour_32 rfl (lv_at hl 1 rfl) ?_
                  refine lv_dup hx hb d_Tape_putFour_33 rfl ?_
                  refine z_get hx hb hts (z_lay i_Tape) hown hK hw f7_tp rfl 1 (by decide) (z_in k_35 rfl) (fun _ h9 => h9) rfl d_Tape_putFour_34 ?_
                  refine lv_iconst (v := 1) hx hb d_Tape_putFour_37 (by decide) ?_
                  refine lv_iadd hx hb d_Tape_putFour_38 ?_
                  refine z_topi (y := nI ((((n + 1) + 1) + 1) + 1)) (nI_add (((n + 1) + 1) + 1) 1) ?_
                  refine z_putf (ty := .int) hx hb hts (z_lay i_Tape) t_Tape t_Tape_ok n_Tape hown hK hw f7_tp rfl 1 (by decide) (z_in k_35 rfl) (fun _ h9 => h9) rfl (by decide +kernel) rfl rfl (Nat.le_of_ble_eq_true rfl) d_Tape_putFour_39 (fun H locs hw => ?_)
                  obtain ⟨h8, hh8⟩ : ∃ x9, z_put h7 tp (2, 0) (.inr (1, [.ref b, .int (nI ((((n + 1) + 1) + 1) + 1))])) = x9 := ⟨_, rfl⟩
                  have hw : z_S g A s.heap h8 H locs := by rw [← hh8]; exact hw
                  have f8_tp : h8 tp = some ((2, 0), .inr (1, [.ref b, .int (nI ((((n + 1) + 1) + 1) + 1))])) := by rw [← hh8]; exact z_put_eq
                  have f8_b : h8 b = some ((3, 0), .inl (g.2.1 0, 4000, .inl (upd (upd (upd (upd f n (sb_b (by4 x 0))) (n + 1) (sb_b (by4 x 1))) ((n + 1) + 1) (sb_b (by4 x 2))) (((n + 1) + 1) + 1) (sb_b (by4 x 3))))) := by rw [← hh8]; exact z_keep f7_tp f7_b (z_t1 (by decide))
                  have kk8 : z_K (fun r => r = 2 ∨ r = 3) h h8 := kk7.tr (by rw [← hh8]; exact z_K.put f7_tp (by first | decide | simp | omega))
                  refine lv_iinc (v := (-8)) (lv' := [(2, .int (-8)), (0, .ref tp), (1, .int x)]) hx hb d_Tape_putFour_42 hl (k := 0) rfl (by decide) (by decide) rfl (fun ls hl => ?_)
                  refine lv_goto (tgt := 3) hx hb d_Tape_putFour_45 (by decide) ?_
                  refine lv_iload_n hx hb d_Tape_putFour_3 rfl (lv_at hl 0 rfl) ?_
                  refine lv_if_lt (tgt := 48) hx hb d_Tape_putFour_4 (by decide) (fun c_4 => ?_) (fun c_4 => ?_)
                  · -- 4: True
                    exact z_vret hx hb hr hlocks hw ⟨rfl, f8_tp, f8_b, kk8⟩ (by decide) (by decide) d_Tape_putFour_48
                  · -- 4: False
                    exact absurd (by decide) c_4

set_option maxHeartbeats 4000000 in
set_option maxRecDepth 100000 in
theorem c_Tape_cut_few (l : Launch) (g : z_G) (h : z_H) {tp b n : Nat} {k : Int32} (htp : h tp = some ((2, 0), .inr (1, [.ref b, .int (nI n)]))) (hn : n ≤ 4000) (hk : k < 0 ∨ nI n < k) : z_C l y_Tape_cut prog_11_method_4_code 2 (Option.some (Jvm.ClassFile.FieldType.object "SchemaRecords$Scanner")) 1 40 1 6 g [.ref tp, .int k] h (fun r h1 => r = some .null ∧ h = h1) := by
  refine z_C.of (by decide) (Nat.le_of_ble_eq_true rfl) (fun pg en s m below meth cd A ls hx hb hml hr hts hown hlocks hnm hK hE hA hw hl => ?_)
  have hl : lv_has ls 2 [(0, .ref tp), (1, .int k)] := hl
  refine lv_iload_n hx hb d_Tape_cut_0 rfl (lv_at hl 1 rfl) ?_
  refine lv_if_lt (tgt := 12) hx hb d_Tape_cut_1 (by decide) (fun c_1 => ?_) (fun c_1 => ?_)
  · -- 1: True
    refine lv_null hx hb d_Tape_cut_12 ?_
    exact z_aret hx hb hr (Or.inl ⟨_, rfl⟩) (Or.inl rfl) hlocks hw ⟨rfl, rfl⟩ (by decide) (by decide) d_Tape_cut_13
  · -- 1: False
    refine lv_iload_n hx hb d_Tape_cut_4 rfl (lv_at hl 1 rfl) ?_
    refine lv_aload_n hx hb d_Tape_cut_5 rfl (lv_at hl 0 rfl) ?_
    refine z_get hx hb hts (z_lay i_Tape) hown hK hw htp rfl 1 (by decide) (z_in k_35 rfl) (fun _ h9 => h9) rfl d_Tape_cut_6 ?_
    refine lv_icmp_le (tgt := 14) hx hb d_Tape_cut_9 (by decide) (fun c_9 => ?_) (fun c_9 => ?_)
    · -- 9: True
      rcases hk with z | z; exact absurd z c_1; exact absurd c_9 (by rw [Int32.le_iff_toInt_le]; rw [Int32.lt_iff_toInt_lt] at z; omega)
    · -- 9: False
      refine lv_null hx hb d_Tape_cut_12 ?_
      exact z_aret hx hb hr (Or.inl ⟨_, rfl⟩) (Or.inl rfl) hlocks hw ⟨rfl, rfl⟩ (by decide) (by decide) d_Tape_cut_13

set_option maxHeartbeats 4000000 in
set_option maxRecDepth 100000 in
theorem c_Tape_cut (l : Launch) (g : z_G) (h : z_H) {tp b n k : Nat} (htp : h tp = some ((2, 0), .inr (1, [.ref b, .int (nI n)]))) (hn : n ≤ 4000) (hk : k ≤ n) : z_C l y_Tape_cut prog_11_method_4_code 2 (Option.some (Jvm.ClassFile.FieldType.object "SchemaRecords$Scanner")) 2 42 1 6 g [.ref tp, .int (nI k)] h (fun r h1 => ∃ sc, r = some (.ref sc) ∧ h1 sc = some ((6, 0), .inr (7, [.ref b, .int (nI k), .int (nI 0), .int (-1), .int 0, .int 0])) ∧ h1 tp = some ((2, 0), .inr (1, [.ref b, .int (nI 0)])) ∧ z_K (fun r => r = 2 ∨ r = 6) h h1) := by
  refine z_C.of (by decide) (Nat.le_of_ble_eq_true rfl) (fun pg en s m below meth cd A ls hx hb hml hr hts hown hlocks hnm hK hE hA hw hl => ?_)
  have hl : lv_has ls 2 [(0, .ref tp), (1, .int (nI k))] := hl
  have kk0 : z_K (fun r => r = 2 ∨ r = 6) h h := z_K.rf
  refine lv_iload_n hx hb d_Tape_cut_0 rfl (lv_at hl 1 rfl) ?_
  refine lv_if_lt (tgt := 12) hx hb d_Tape_cut_1 (by decide) (fun c_1 => ?_) (fun c_1 => ?_)
  · -- 1: True
    have c_1 : k < 0 := (nI_ltI (a := k) (b := 0) (by omega) (by omega)).mp c_1
    omega
  · -- 1: False
    have c_1 : ¬ (k < 0) := fun z => c_1 ((nI_ltI (a := k) (b := 0) (by omega) (by omega)).mpr z)
    refine lv_iload_n hx hb d_Tape_cut_4 rfl (lv_at hl 1 rfl) ?_
    refine lv_aload_n hx hb d_Tape_cut_5 rfl (lv_at hl 0 rfl) ?_
    refine z_get hx hb hts (z_lay i_Tape) hown hK hw htp rfl 1 (by decide) (z_in k_35 rfl) (fun _ h9 => h9) rfl d_Tape_cut_6 ?_
    refine lv_icmp_le (tgt := 14) hx hb d_Tape_cut_9 (by decide) (fun c_9 => ?_) (fun c_9 => ?_)
    · -- 9: True
      have c_9 : k ≤ n := (nI_leI (a := k) (b := n) (by omega) (by omega)).mp c_9
      refine lv_aload_n hx hb d_Tape_cut_14 rfl (lv_at hl 0 rfl) ?_
      refine lv_iconst (v := 0) hx hb d_Tape_cut_15 (by decide) ?_
      refine z_putf (ty := .int) hx hb hts (z_lay i_Tape) t_Tape t_Tape_ok n_Tape hown hK hw htp rfl 1 (by decide) (z_in k_35 rfl) (fun _ h9 => h9) rfl (by decide +kernel) rfl rfl (Nat.le_of_ble_eq_true rfl) d_Tape_cut_16 (fun H locs hw => ?_)
      obtain ⟨h1, hh1⟩ : ∃ x9, z_put h tp (2, 0) (.inr (1, [.ref b, .int 0])) = x9 := ⟨_, rfl⟩
      have hw : z_S g A s.heap h1 H locs := by rw [← hh1]; exact hw
      have f1_tp : h1 tp = some ((2, 0), .inr (1, [.ref b, .int 0])) := by rw [← hh1]; exact z_put_eq
      have kk1 : z_K (fun r => r = 2 ∨ r = 6) h h1 := kk0.tr (by rw [← hh1]; exact z_K.put htp (by first | decide | simp | omega))
      refine z_new (ci := 7) (fs := [.null, .int 0, .int 0, .int 0, .int 0, .int 0]) hx hb hts (z_lay i_Scanner) t_Scanner t_Scanner_ok hown (z_in k_182 rfl) (z_in k_183 rfl) (z_in k_8 rfl) hK hw hA rfl (fun j hj => by rcases (show j = 0 ∨ j = 1 ∨ j = 2 ∨ j = 3 ∨ j = 4 ∨ j = 5 by omega) with rfl | rfl | rfl | rfl | rfl | rfl <;> rfl) (by first | exact Nat.le_of_ble_eq_true rfl | (dsimp only; omega) | omega) (by first | exact Nat.le_of_ble_eq_true rfl | (dsimp only; omega) | omega) d_Tape_cut_19 (6, 0) (fun sc H n_sc hw => ?_)
      obtain ⟨h2, hh2⟩ : ∃ x9, z_put h1 sc (6, 0) (.inr (7, [.null, .int 0, .int 0, .int 0, .int 0, .int 0])) = x9 := ⟨_, rfl⟩
      have hw : z_S g A s.heap h2 H locs := by rw [← hh2]; exact hw
      have ne_tp_sc : tp ≠ sc := fun z => by have z2 := f1_tp; rw [z, n_sc] at z2; cases z2
      have f2_tp : h2 tp = some ((2, 0), .inr (1, [.ref b, .int 0])) := by rw [← hh2]; exact z_keepN n_sc f1_tp
      have f2_sc : h2 sc = some ((6, 0), .inr (7, [.null, .int 0, .int 0, .int 0, .int 0, .int 0])) := by rw [← hh2]; exact z_put_eq
      have kk2 : z_K (fun r => r = 2 ∨ r = 6) h h2 := kk1.tr (by rw [← hh2]; exact z_K.new n_sc)
      refine lv_dup hx hb d_Tape_cut_22 rfl ?_
      refine lv_aload_n hx hb d_Tape_cut_23 rfl (lv_at hl 0 rfl) ?_
      refine z_get hx hb hts (z_lay i_Tape) hown hK hw f2_tp rfl 0 (by decide) (z_in k_34 rfl) (fun _ h9 => h9) rfl d_Tape_cut_24 ?_
      refine lv_iload_n hx hb d_Tape_cut_27 rfl (lv_at hl 1 rfl) ?_
      refine z_callI (n := 2) (As := [.ref b, .int (nI k)]) (rest := [.ref sc]) ⟨hx, hb, hml, hown, hts⟩ (c_Scanner_init l g h2 f2_sc) (z_in k_186 rfl) (z_in k_8 rfl) (z_in k_184 rfl) (z_in k_185 rfl) rfl (by decide +kernel) ⟨by first | exact Nat.le_of_ble_eq_true rfl | (dsimp only; omega) | omega, by first | exact Nat.le_of_ble_eq_true rfl | (dsimp only; omega) | omega⟩ hK hE hw hA rfl hl.1 (Nat.le_of_ble_eq_true rfl) d_Tape_cut_28 ⟨by first | exact Nat.le_of_ble_eq_true rfl | (dsimp only; omega) | omega, by first | exact Nat.le_of_ble_eq_true rfl | (dsimp only; omega) | omega⟩ rfl (fun r9 h9 H locs hp hw => ?_)
      obtain ⟨r8, hh3⟩ := hp
      subst r8
      obtain ⟨h3, e8⟩ : ∃ x9, x9 = h9 := ⟨_, rfl⟩
      subst e8
      have f3_tp : h3 tp = some ((2, 0), .inr (1, [.ref b, .int 0])) := by rw [← hh3]; exact (z_put_ne ne_tp_sc).trans f2_tp
      have f3_sc : h3 sc = some ((6, 0), .inr (7, [.ref b, .int (nI k), .int (nI 0), .int (-1), .int 0, .int 0])) := by rw [← hh3]; exact z_put_eq
      have kk3 : z_K (fun r => r = 2 ∨ r = 6) h h3 := kk2.tr (by rw [← hh3]; exact z_K.put f2_sc (by first | decide | simp | omega))
      refine W.eq (g2 := F0 m 31 ls [.ref sc]) rfl ?_
      exact z_aret hx hb hr (Or.inl ⟨_, rfl⟩) (Or.inr ⟨_, rfl⟩) hlocks hw ⟨sc, rfl, f3_sc, f3_tp, kk3⟩ (by decide) (by decide) d_Tape_cut_31
    · -- 9: False
      have c_9 : ¬ (k ≤ n) := fun z => c_9 ((nI_leI (a := k) (b := n) (by omega) (by omega)).mpr z)
      omega

set_option maxHeartbeats 4000000 in
set_option maxRecDepth 100000 in
theorem c_Tape_init (l : Launch) (g : z_G) (h : z_H) {tp : Nat} {tg : Nat × Nat} (htp : h tp = some (tg, .inr (1, [.null, .int 0]))) (htg : tg.1 ≠ 3) : z_C l y_Tape_init prog_11_method_1_code 1 (Option.none : Option Jvm.ClassFile.FieldType) 1 14 1 4000 g [.ref tp] h (fun r h1 => ∃ b, r = none ∧ h b = none ∧ h1 b = some ((3, 0), .inl (g.2.1 0, 4000, .inl (fun _ => 0))) ∧ h1 tp = some (tg, .inr (1, [.ref b, .int 0])) ∧ z_K (fun r => r = tg.1) h h1) := by
  refine z_C.of (by decide) (Nat.le_of_ble_eq_true rfl) (fun pg en s m below meth cd A ls hx hb hml hr hts hown hlocks hnm hK hE hA hw hl => ?_)
  have hl : lv_has ls 1 [(0, .ref tp)] := hl
  have kk0 : z_K (fun r => r = tg.1) h h := z_K.rf
  refine lv_aload_n hx hb d_Tape_init_0 rfl (lv_at hl 0 rfl) ?_
  refine W.objInit hx hb hown (hts _ (z_in k_33 rfl)) (hts _ (z_in k_26 rfl)) (hts _ (z_in k_27 rfl)) rfl (by rw [hml]; exact hl.1) rfl d_Tape_init_1 (Nat.le_of_ble_eq_true rfl) (Nat.le_of_ble_eq_true rfl) ?_
  refine W.eq (g2 := F0 m 4 ls []) rfl ?_
  refine lv_aload_n hx hb d_Tape_init_4 rfl (lv_at hl 0 rfl) ?_
  refine lv_sipush (v := 4000) hx hb d_Tape_init_5 (by decide) ?_
  refine z_newa (atype := .byte) (N' := 4000) (a0 := (4000, .inl (fun _ => 0))) hx hb hts (z_in k_41 rfl) hK hw hA 0 rfl rfl (fun C z => by cases z) (fun cA => rfl) (by decide) (by rfl) (by show _ ≤ _; simp [componentBytes]; try omega) (by first | exact Nat.le_of_ble_eq_true rfl | (dsimp only; omega) | omega) (by first | exact Nat.le_of_ble_eq_true rfl | (dsimp only; omega) | omega) d_Tape_init_8 (3, 0) (fun b H n_b hw => ?_)
  obtain ⟨h1, hh1⟩ : ∃ x9, z_put h b (3, 0) (.inl (g.2.1 0, 4000, .inl (fun _ => 0))) = x9 := ⟨_, rfl⟩
  have hw : z_S g A s.heap h1 H [] := by rw [← hh1]; exact hw
  have ne_tp_b : tp ≠ b := fun z => by have z2 := htp; rw [z, n_b] at z2; cases z2
  have f1_tp : h1 tp = some (tg, .inr (1, [.null, .int 0])) := by rw [← hh1]; exact z_keepN n_b htp
  have f1_b : h1 b = some ((3, 0), .inl (g.2.1 0, 4000, .inl (fun _ => 0))) := by rw [← hh1]; exact z_put_eq
  have kk1 : z_K (fun r => r = tg.1) h h1 := kk0.tr (by rw [← hh1]; exact z_K.new n_b)
  refine z_putF (ty := .array .byte) hx hb hts (z_lay i_Tape) t_Tape t_Tape_ok n_Tape hown hK hw f1_tp rfl 0 (by decide) (z_in k_34 rfl) (fun _ h9 => h9) rfl hnm rfl (by decide +kernel) rfl rfl (Nat.le_of_ble_eq_true rfl) d_Tape_init_10 (fun H locs hw => ?_)
  obtain ⟨h2, hh2⟩ : ∃ x9, z_put h1 tp tg (.inr (1, [.ref b, .int 0])) = x9 := ⟨_, rfl⟩
  have hw : z_S g A s.heap h2 H locs := by rw [← hh2]; exact hw
  have f2_tp : h2 tp = some (tg, .inr (1, [.ref b, .int 0])) := by rw [← hh2]; exact z_put_eq
  have f2_b : h2 b = some ((3, 0), .inl (g.2.1 0, 4000, .inl (fun _ => 0))) := by rw [← hh2]; exact (z_put_ne (Ne.symm ne_tp_b)).trans f1_b
  have kk2 : z_K (fun r => r = tg.1) h h2 := kk1.tr (by rw [← hh2]; exact z_K.put f1_tp (by first | decide | simp | omega))
  exact z_vret hx hb hr hlocks hw ⟨b, rfl, n_b, f2_b, f2_tp, kk2⟩ (by decide) (by decide) d_Tape_init_13

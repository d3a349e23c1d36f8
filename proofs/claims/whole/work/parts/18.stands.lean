/-- whether a name may stand: short enough, room for its field, not too deep, no other of the group has it -/
def nmSt (S : Sch) (t : Nat → Nat) (gr ty : Int32) (d a e : Nat) : Bool := decide (e - a ≤ 16) && (decide (S.1 < 128) && (decide (ty = 4) || decide (cc S < 64))) && (!decide (ty = 4) || decide (d < 16)) && decide (nmd S gr t a e = -1)

set_option maxHeartbeats 4000000 in
set_option maxRecDepth 100000 in
theorem c_nameStands (l : Launch) (g : z_G) (h : z_H) {r q : Nat} {S : Sch} {fa ca : Nat} {ad na : Nat → Nat} {ff : Nat → Option Nat} {cf : Nat → Int32} {nf : Nat → Nat → Int32} {rd sc b len n p a e d : Nat} {f : Nat → Int32} {fa2 : Int32} {t : Nat → Nat} {gr ty : Int32} (hrd : h rd = some ((7, 0), .inr (8, [.ref sc, .ref q]))) (hsc : h sc = some ((6, 0), .inr (7, [.ref b, .int (nI n), .int (nI p), .int fa2, .int (nI a), .int (nI e)]))) (hb0 : h b = some ((3, 0), .inl (g.2.1 0, len, .inl f))) (hS : SchP g h r q S fa ca ad na ff cf nf) (hn : n ≤ len) (hlen : len < 2 ^ 31) (hf : ∀ k, k < n → t k < 256 ∧ f k = sb_b (t k)) (hae : a ≤ e) (hen : e ≤ n) (hd9 : d < 1000) : z_C l y_SchemaReader_nameStands prog_10_method_5_code 4 (Option.some Jvm.ClassFile.FieldType.boolean) 3 100 0 0 g [.ref rd, .int gr, .int ty, .int (nI d)] h (fun x h1 => x = some (.int (zb (nmSt S t gr ty d a e))) ∧ h = h1) := by
  refine z_C.of (by decide) (Nat.le_of_ble_eq_true rfl) (fun pg en s m below meth cd A ls hx hb hml hr hts hown hlocks hnm hK hE hA hw hl => ?_)
  have hl : lv_has ls 4 [(0, .ref rd), (1, .int gr), (2, .int ty), (3, .int (nI d))] := hl
  obtain ⟨hq, hfa, hca, hfd, hnn, hnb, hcol, hsz, hcc⟩ := id hS
  have hrt := rq_le S (-1)
  refine lv_aload_n hx hb d_SchemaReader_nameStands_0 rfl (lv_at hl 0 rfl) ?_
  refine z_get hx hb hts (z_lay i_SchemaReader) hown hK hw hrd rfl 0 (by decide) (z_in k_220 rfl) (fun _ h9 => h9) rfl d_SchemaReader_nameStands_1 ?_
  refine z_getN hx hb hts (z_lay i_Scanner) hown hK hw hsc rfl 5 (by decide) hE.nest (z_inN k_198 rfl) (fun _ h9 => h9) rfl d_SchemaReader_nameStands_4 ?_
  refine lv_aload_n hx hb d_SchemaReader_nameStands_7 rfl (lv_at hl 0 rfl) ?_
  refine z_get hx hb hts (z_lay i_SchemaReader) hown hK hw hrd rfl 0 (by decide) (z_in k_220 rfl) (fun _ h9 => h9) rfl d_SchemaReader_nameStands_8 ?_
  refine z_getN hx hb hts (z_lay i_Scanner) hown hK hw hsc rfl 4 (by decide) hE.nest (z_inN k_195 rfl) (fun _ h9 => h9) rfl d_SchemaReader_nameStands_11 ?_
  refine lv_isub hx hb d_SchemaReader_nameStands_14 ?_
  refine z_topi (y := nI (e - a)) (pk_sub (a := e) (b := a) (by omega)) ?_
  refine lv_bipush (v := 16) hx hb d_SchemaReader_nameStands_15 (by decide) ?_
  refine lv_icmp_gt (tgt := 76) hx hb d_SchemaReader_nameStands_17 (by decide) (fun c_17 => ?_) (fun c_17 => ?_)
  · -- 17: True
    have c_17 : 16 < (e - a) := (nI_ltI (a := 16) (b := e - a) (by omega) (by omega)).mp c_17
    refine lv_iconst (v := 0) hx hb d_SchemaReader_nameStands_76 (by decide) ?_
    exact z_zret hx hb hr rfl hlocks hw (by refine ⟨congrArg some (congrArg Value.int ?_), rfl⟩; unfold nmSt; rw [zb_0 (by rw [decide_eq_false (by omega)]; simp)]) (by decide) (by decide) d_SchemaReader_nameStands_77
  · -- 17: False
    have c_17 : ¬ (16 < (e - a)) := fun z => c_17 ((nI_ltI (a := 16) (b := e - a) (by omega) (by omega)).mpr z)
    refine lv_aload_n hx hb d_SchemaReader_nameStands_20 rfl (lv_at hl 0 rfl) ?_
    refine z_get hx hb hts (z_lay i_SchemaReader) hown hK hw hrd rfl 1 (by decide) (z_in k_221 rfl) (fun _ h9 => h9) rfl d_SchemaReader_nameStands_21 ?_
    refine lv_iload_n hx hb d_SchemaReader_nameStands_24 rfl (lv_at hl 2 rfl) ?_
    refine z_callV (n := 1) (As := [.int ty]) (rest := []) ⟨hx, hb, hml, hown, hts⟩ (c_Schema_hasRoomFor l g h hS) (z_in k_348 rfl) (z_in k_4 rfl) (z_in k_345 rfl) (z_in k_346 rfl) (z_in k_347 rfl) (by decide +kernel) ⟨by first | exact Nat.le_of_ble_eq_true rfl | (dsimp only; omega) | omega, by first | exact Nat.le_of_ble_eq_true rfl | (dsimp only; omega) | omega⟩ hK hE hw hA rfl hq rfl hl.1 (Nat.le_of_ble_eq_true rfl) d_SchemaReader_nameStands_25 ⟨by first | exact Nat.le_of_ble_eq_true rfl | (dsimp only; omega) | omega, by first | exact Nat.le_of_ble_eq_true rfl | (dsimp only; omega) | omega⟩ rfl (fun r9 h9 H locs hp hw => ?_)
    obtain ⟨r8, h8⟩ := hp
    subst r8
    subst h8
    refine W.eq (g2 := F0 m 28 ls [.int (zb (decide (S.1 < 128) && (decide (ty = 4) || decide (cc S < 64))))]) rfl ?_
    refine lv_if_eq (tgt := 76) hx hb d_SchemaReader_nameStands_28 (by decide) (fun c_28 => ?_) (fun c_28 => ?_)
    · -- 28: True
      have c_28 : (decide (S.1 < 128) && (decide (ty = 4) || decide (cc S < 64))) = false := zb_f c_28
      refine lv_iconst (v := 0) hx hb d_SchemaReader_nameStands_76 (by decide) ?_
      exact z_zret hx hb hr rfl hlocks hw (by refine ⟨congrArg some (congrArg Value.int ?_), rfl⟩; unfold nmSt; rw [zb_0 (by rw [c_28]; simp)]) (by decide) (by decide) d_SchemaReader_nameStands_77
    · -- 28: False
      have c_28 : (decide (S.1 < 128) && (decide (ty = 4) || decide (cc S < 64))) = true := zb_t c_28
      refine lv_iload_n hx hb d_SchemaReader_nameStands_31 rfl (lv_at hl 2 rfl) ?_
      refine lv_iconst (v := 4) hx hb d_SchemaReader_nameStands_32 (by decide) ?_
      refine lv_icmp_ne (tgt := 42) hx hb d_SchemaReader_nameStands_33 (by decide) (fun c_33 => ?_) (fun c_33 => ?_)
      · -- 33: True
        refine lv_aload_n hx hb d_SchemaReader_nameStands_42 rfl (lv_at hl 0 rfl) ?_
        refine z_get hx hb hts (z_lay i_SchemaReader) hown hK hw hrd rfl 1 (by decide) (z_in k_221 rfl) (fun _ h9 => h9) rfl d_SchemaReader_nameStands_43 ?_
        refine lv_iload_n hx hb d_SchemaReader_nameStands_46 rfl (lv_at hl 1 rfl) ?_
        refine lv_aload_n hx hb d_SchemaReader_nameStands_47 rfl (lv_at hl 0 rfl) ?_
        refine z_get hx hb hts (z_lay i_SchemaReader) hown hK hw hrd rfl 0 (by decide) (z_in k_220 rfl) (fun _ h9 => h9) rfl d_SchemaReader_nameStands_48 ?_
        refine lv_aload_n hx hb d_SchemaReader_nameStands_51 rfl (lv_at hl 0 rfl) ?_
        refine z_get hx hb hts (z_lay i_SchemaReader) hown hK hw hrd rfl 0 (by decide) (z_in k_220 rfl) (fun _ h9 => h9) rfl d_SchemaReader_nameStands_52 ?_
        refine z_getN hx hb hts (z_lay i_Scanner) hown hK hw hsc rfl 4 (by decide) hE.nest (z_inN k_195 rfl) (fun _ h9 => h9) rfl d_SchemaReader_nameStands_55 ?_
        refine lv_aload_n hx hb d_SchemaReader_nameStands_58 rfl (lv_at hl 0 rfl) ?_
        refine z_get hx hb hts (z_lay i_SchemaReader) hown hK hw hrd rfl 0 (by decide) (z_in k_220 rfl) (fun _ h9 => h9) rfl d_SchemaReader_nameStands_59 ?_
        refine z_getN hx hb hts (z_lay i_Scanner) hown hK hw hsc rfl 5 (by decide) hE.nest (z_inN k_198 rfl) (fun _ h9 => h9) rfl d_SchemaReader_nameStands_62 ?_
        refine z_callV (n := 4) (As := [.int gr, .ref sc, .int (nI a), .int (nI e)]) (rest := []) ⟨hx, hb, hml, hown, hts⟩ (c_Schema_named (t := t) l g h hsc hb0 hS hn hlen hf (by omega) (by omega)) (z_in k_352 rfl) (z_in k_4 rfl) (z_in k_349 rfl) (z_in k_350 rfl) (z_in k_351 rfl) (by decide +kernel) ⟨by first | exact Nat.le_of_ble_eq_true rfl | (dsimp only; omega) | omega, by first | exact Nat.le_of_ble_eq_true rfl | (dsimp only; omega) | omega⟩ hK hE hw hA rfl hq rfl hl.1 (Nat.le_of_ble_eq_true rfl) d_SchemaReader_nameStands_65 ⟨by first | exact Nat.le_of_ble_eq_true rfl | (dsimp only; omega) | omega, by first | exact Nat.le_of_ble_eq_true rfl | (dsimp only; omega) | omega⟩ rfl (fun r9 h9 H locs hp hw => ?_)
        obtain ⟨r8, h8⟩ := hp
        subst r8
        subst h8
        refine W.eq (g2 := F0 m 68 ls [.int (nmd S gr t a e)]) rfl ?_
        refine lv_iconst (v := (-1)) hx hb d_SchemaReader_nameStands_68 (by decide) ?_
        refine lv_icmp_ne (tgt := 76) hx hb d_SchemaReader_nameStands_69 (by decide) (fun c_69 => ?_) (fun c_69 => ?_)
        · -- 69: True
          refine lv_iconst (v := 0) hx hb d_SchemaReader_nameStands_76 (by decide) ?_
          exact z_zret hx hb hr rfl hlocks hw (by refine ⟨congrArg some (congrArg Value.int ?_), rfl⟩; unfold nmSt; rw [zb_0 (by rw [decide_eq_false c_69]; simp)]) (by decide) (by decide) d_SchemaReader_nameStands_77
        · -- 69: False
          refine lv_iconst (v := 1) hx hb d_SchemaReader_nameStands_72 (by decide) ?_
          refine lv_goto (tgt := 77) hx hb d_SchemaReader_nameStands_73 (by decide) ?_
          exact z_zret hx hb hr rfl hlocks hw (by refine ⟨congrArg some (congrArg Value.int ?_), rfl⟩; unfold nmSt; rw [zb_1 (by have r1 : decide (e - a ≤ 16) = true := decide_eq_true (by omega); have r2 : decide (nmd S gr t a e = -1) = true := decide_eq_true c_69; rw [r1, r2, c_28]; simp [c_33])]) (by decide) (by decide) d_SchemaReader_nameStands_77
      · -- 33: False
        refine lv_iload_n hx hb d_SchemaReader_nameStands_36 rfl (lv_at hl 3 rfl) ?_
        refine lv_bipush (v := 16) hx hb d_SchemaReader_nameStands_37 (by decide) ?_
        refine lv_icmp_ge (tgt := 76) hx hb d_SchemaReader_nameStands_39 (by decide) (fun c_39 => ?_) (fun c_39 => ?_)
        · -- 39: True
          have c_39 : 16 ≤ d := (nI_leI (a := 16) (b := d) (by omega) (by omega)).mp c_39
          refine lv_iconst (v := 0) hx hb d_SchemaReader_nameStands_76 (by decide) ?_
          exact z_zret hx hb hr rfl hlocks hw (by refine ⟨congrArg some (congrArg Value.int ?_), rfl⟩; unfold nmSt; rw [zb_0 (by rw [decide_eq_true c_33, decide_eq_false (p := d < 16) (by omega)]; simp)]) (by decide) (by decide) d_SchemaReader_nameStands_77
        · -- 39: False
          have c_39 : ¬ (16 ≤ d) := fun z => c_39 ((nI_leI (a := 16) (b := d) (by omega) (by omega)).mpr z)
          refine lv_aload_n hx hb d_SchemaReader_nameStands_42 rfl (lv_at hl 0 rfl) ?_
          refine z_get hx hb hts (z_lay i_SchemaReader) hown hK hw hrd rfl 1 (by decide) (z_in k_221 rfl) (fun _ h9 => h9) rfl d_SchemaReader_nameStands_43 ?_
          refine lv_iload_n hx hb d_SchemaReader_nameStands_46 rfl (lv_at hl 1 rfl) ?_
          refine lv_aload_n hx hb d_SchemaReader_nameStands_47 rfl (lv_at hl 0 rfl) ?_
          refine z_get hx hb hts (z_lay i_SchemaReader) hown hK hw hrd rfl 0 (by decide) (z_in k_220 rfl) (fun _ h9 => h9) rfl d_SchemaReader_nameStands_48 ?_
          refine lv_aload_n hx hb d_SchemaReader_nameStands_51 rfl (lv_at hl 0 rfl) ?_
          refine z_get hx hb hts (z_lay i_SchemaReader) hown hK hw hrd rfl 0 (by decide) (z_in k_220 rfl) (fun _ h9 => h9) rfl d_SchemaReader_nameStands_52 ?_
          refine z_getN hx hb hts (z_lay i_Scanner) hown hK hw hsc rfl 4 (by decide) hE.nest (z_inN k_195 rfl) (fun _ h9 => h9) rfl d_SchemaReader_nameStands_55 ?_
          refine lv_aload_n hx hb d_SchemaReader_nameStands_58 rfl (lv_at hl 0 rfl) ?_
          refine z_get hx hb hts (z_lay i_SchemaReader) hown hK hw hrd rfl 0 (by decide) (z_in k_220 rfl) (fun _ h9 => h9) rfl d_SchemaReader_nameStands_59 ?_
          refine z_getN hx hb hts (z_lay i_Scanner) hown hK hw hsc rfl 5 (by decide) hE.nest (z_inN k_198 rfl) (fun _ h9 => h9) rfl d_SchemaReader_nameStands_62 ?_
          refine z_callV (n := 4) (As := [.int gr, .ref sc, .int (nI a), .int (nI e)]) (rest := []) ⟨hx, hb, hml, hown, hts⟩ (c_Schema_named (t := t) l g h hsc hb0 hS hn hlen hf (by omega) (by omega)) (z_in k_352 rfl) (z_in k_4 rfl) (z_in k_349 rfl) (z_in k_350 rfl) (z_in k_351 rfl) (by decide +kernel) ⟨by first | exact Nat.le_of_ble_eq_true rfl | (dsimp only; omega) | omega, by first | exact Nat.le_of_ble_eq_true rfl | (dsimp only; omega) | omega⟩ hK hE hw hA rfl hq rfl hl.1 (Nat.le_of_ble_eq_true rfl) d_SchemaReader_nameStands_65 ⟨by first | exact Nat.le_of_ble_eq_true rfl | (dsimp only; omega) | omega, by first | exact Nat.le_of_ble_eq_true rfl | (dsimp only; omega) | omega⟩ rfl (fun r9 h9 H locs hp hw => ?_)
          obtain ⟨r8, h8⟩ := hp
          subst r8
          subst h8
          refine W.eq (g2 := F0 m 68 ls [.int (nmd S gr t a e)]) rfl ?_
          refine lv_iconst (v := (-1)) hx hb d_SchemaReader_nameStands_68 (by decide) ?_
          refine lv_icmp_ne (tgt := 76) hx hb d_SchemaReader_nameStands_69 (by decide) (fun c_69 => ?_) (fun c_69 => ?_)
          · -- 69: True
            refine lv_iconst (v := 0) hx hb d_SchemaReader_nameStands_76 (by decide) ?_
            exact z_zret hx hb hr rfl hlocks hw (by refine ⟨congrArg some (congrArg Value.int ?_), rfl⟩; unfold nmSt; rw [zb_0 (by rw [decide_eq_false c_69]; simp)]) (by decide) (by decide) d_SchemaReader_nameStands_77
          · -- 69: False
            refine lv_iconst (v := 1) hx hb d_SchemaReader_nameStands_72 (by decide) ?_
            refine lv_goto (tgt := 77) hx hb d_SchemaReader_nameStands_73 (by decide) ?_
            exact z_zret hx hb hr rfl hlocks hw (by refine ⟨congrArg some (congrArg Value.int ?_), rfl⟩; unfold nmSt; rw [zb_1 (by have r1 : decide (e - a ≤ 16) = true := decide_eq_true (by omega); have r2 : decide (nmd S gr t a e = -1) = true := decide_eq_true c_69; rw [r1, r2, c_28]; simp [c_33]; omega)]) (by decide) (by decide) d_SchemaReader_nameStands_77

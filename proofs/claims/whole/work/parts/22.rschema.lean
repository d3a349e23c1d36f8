theorem c_readField_in (l : Launch) (g : z_G) {r q rd sc b len n : Nat} {f : Nat → Int32} {t : Nat → Nat} (hn : n ≤ len) (hlen : len < 2 ^ 31) (hf : ∀ k, k < n → t k < 256 ∧ f k = sb_b (t k)) (hl29 : len < 2 ^ 29) (hl16 : 16 < len) (hfb : z_fb f len) (hr0 : 100 ≤ r) : ∀ (D d : Nat), d + (D + 1) = 17 → ∀ (i : Nat) (h : z_H) (p : Nat) (S : Sch) (fa ws wd : Int32), h rd = some ((7, 0), .inr (8, [.ref sc, .ref q])) → h sc = some ((6, 0), scE b n p fa ws wd) → h b = some ((3, 0), .inl (g.2.1 0, len, .inl f)) → p ≤ n → SchAt g h r q S → grOK S → i < S.1 → S.1 ≤ 128 → z_C l y_SchemaReader_readField prog_10_method_3_code 6 (Option.some Jvm.ClassFile.FieldType.boolean) (12 * D + 8) (350 * D + 250) (2 * (rSz (fldD t n (D + 1) d p S (nI i)) - S.1)) (25 * (rSz (fldD t n (D + 1) d p S (nI i)) - S.1)) g [.ref rd, .int (nI i), .int (nI d)] h (rdP g (fldD t n (D + 1) d p S (nI i)) h r q sc b n) := by
  intro D
  induction D with
  | zero =>
    intro d hd i h p S fa ws wd h1 h2 h3 h4 h5 h6 h7 h8
    exact c_readField_of (fG := 0) (lG := 0) (GR := fun e S1 gi => grpR (fun p S => fldD t n 0 (d + 1) p S (nI gi)) t n e S1) l g h h1 h2 h3 hn hlen hf h4 hl29 hl16 hfb hr0 h5 h6 h8 (by omega) h7 (fun z => absurd z (by omega)) (fun e S1 gi z => grpR_ok (fun p S z2 => fldD_ok 0 (d + 1) p S (nI gi) z2) e S1 z)
  | succ D ih =>
    intro d hd i h p S fa ws wd h1 h2 h3 h4 h5 h6 h7 h8
    exact c_readField_of (fG := 12 * D + 12) (lG := 350 * D + 350) (GR := fun e S1 gi => grpR (fun p S => fldD t n (D + 1) (d + 1) p S (nI gi)) t n e S1) l g h h1 h2 h3 hn hlen hf h4 hl29 hl16 hfb hr0 h5 h6 h8 (by omega) h7
      (fun z h p S gi fa ws wd g1 g2 g3 g4 g5 g6 g7 g8 => c_readGroup_of (fF := 12 * D + 8) (lF := 350 * D + 250) (FR := fun p S => fldD t n (D + 1) (d + 1) p S (nI gi)) l g h g1 g2 g3 hn hlen hf g4 hr0 g5 g6 g7 g8 (fun h p S fa ws wd k1 k2 k3 k4 k5 k6 k7 k8 => ih (d + 1) (by omega) gi h p S fa ws wd k1 k2 k3 k4 k5 k6 k7 k8) (fun p S z2 => fldD_ok (D + 1) (d + 1) p S (nI gi) z2))
      (fun e S1 gi z => grpR_ok (fun p S z2 => fldD_ok (D + 1) (d + 1) p S (nI gi) z2) e S1 z)

theorem c_readField_top (l : Launch) (g : z_G) {r q rd sc b len n : Nat} {f : Nat → Int32} {t : Nat → Nat} (hn : n ≤ len) (hlen : len < 2 ^ 31) (hf : ∀ k, k < n → t k < 256 ∧ f k = sb_b (t k)) (hl29 : len < 2 ^ 29) (hl16 : 16 < len) (hfb : z_fb f len) (hr0 : 100 ≤ r) (h : z_H) (p : Nat) (S : Sch) (fa ws wd : Int32) : h rd = some ((7, 0), .inr (8, [.ref sc, .ref q])) → h sc = some ((6, 0), scE b n p fa ws wd) → h b = some ((3, 0), .inl (g.2.1 0, len, .inl f)) → p ≤ n → SchAt g h r q S → grOK S → S.1 ≤ 128 → z_C l y_SchemaReader_readField prog_10_method_3_code 6 (Option.some Jvm.ClassFile.FieldType.boolean) 200 5850 (2 * (rSz (fldD t n 17 0 p S (-1)) - S.1)) (25 * (rSz (fldD t n 17 0 p S (-1)) - S.1)) g [.ref rd, .int (-1), .int (nI 0)] h (rdP g (fldD t n 17 0 p S (-1)) h r q sc b n) := by
  intro h1 h2 h3 h4 h5 h6 h8
  exact c_readField_of_top (d := 0) (fG := 192) (lG := 5600) (GR := fun e S1 gi => grpR (fun p S => fldD t n 16 1 p S (nI gi)) t n e S1) l g h h1 h2 h3 hn hlen hf h4 hl29 hl16 hfb hr0 h5 h6 h8 (by omega)
      (fun z h p S gi fa ws wd g1 g2 g3 g4 g5 g6 g7 g8 => c_readGroup_of (fF := 188) (lF := 5500) (FR := fun p S => fldD t n 16 1 p S (nI gi)) l g h g1 g2 g3 hn hlen hf g4 hr0 g5 g6 g7 g8 (fun h p S fa ws wd k1 k2 k3 k4 k5 k6 k7 k8 => c_readField_in l g hn hlen hf hl29 hl16 hfb hr0 15 1 (by omega) gi h p S fa ws wd k1 k2 k3 k4 k5 k6 k7 k8) (fun p S z2 => fldD_ok 16 1 p S (nI gi) z2))
      (fun e S1 gi z => grpR_ok (fun p S z2 => fldD_ok 16 1 p S (nI gi) z2) e S1 z)
theorem topL_mid {FR : Nat → Sch → Res} {t : Nat → Nat} {n : Nat} (hF : ∀ p S, S.1 ≤ 128 → resOK S (FR p S)) {c : Nat} {first : Bool} {p : Nat} {S : Sch} (hS : S.1 ≤ 128) (hne : ¬ (first = false ∧ bt t n (sk t n p) = -1)) : rSz (FR (if first = true then p else sk t n p) S) ≤ rSz (topL FR t n (c + 1) first p S) := by
  simp only [topL]
  rw [if_neg hne]
  have h := hF (if first = true then p else sk t n p) S hS
  generalize FR (if first = true then p else sk t n p) S = R at h
  cases R with
  | inl x => exact Nat.le_refl _
  | inr y => exact (topL_ok hF c false y.1 y.2 h.2).1

set_option maxHeartbeats 4000000 in
set_option maxRecDepth 100000 in
theorem c_readSchema (l : Launch) (g : z_G) (h : z_H) {r q : Nat} {S : Sch} {rd sc b len n p : Nat} {f : Nat → Int32} {fa ws wd : Int32} {t : Nat → Nat} (hrd : h rd = some ((7, 0), .inr (8, [.ref sc, .ref q]))) (hsc : h sc = some ((6, 0), .inr (7, [.ref b, .int (nI n), .int (nI p), .int fa, .int ws, .int wd]))) (hb0 : h b = some ((3, 0), .inl (g.2.1 0, len, .inl f))) (hn : n ≤ len) (hlen : len < 2 ^ 31) (hf : ∀ k, k < n → t k < 256 ∧ f k = sb_b (t k)) (hp : p ≤ n) (hl29 : len < 2 ^ 29) (hl16 : 16 < len) (hfb : z_fb f len) (hr0 : 100 ≤ r) (hA9 : SchAt g h r q S) (hg : grOK S) (hs8 : S.1 ≤ 128) : z_C l y_SchemaReader_readSchema prog_10_method_2_code 2 (Option.some Jvm.ClassFile.FieldType.boolean) 201 5900 (2 * (rSz (topL (fun p S => fldD t n 17 0 p S (-1)) t n 129 true p S) - S.1)) (25 * (rSz (topL (fun p S => fldD t n 17 0 p S (-1)) t n 129 true p S) - S.1)) g [.ref rd] h (rdP g (topL (fun p S => fldD t n 17 0 p S (-1)) t n 129 true p S) h r q sc b n) := by
  refine z_C.of (by decide) (Nat.le_of_ble_eq_true rfl) (fun pg en s m below meth cd A ls hx hb hml hr hts hown hlocks hnm hK hE hA hw hl => ?_)
  have hl : lv_has ls 2 [(0, .ref rd)] := hl
  have hFo : ∀ p S, S.1 ≤ 128 → resOK S (fldD t n 17 0 p S (-1)) := fun p S z => fldD_ok 17 0 p S (-1) z
  have rOK : S.1 ≤ rSz (topL (fun p S => fldD t n 17 0 p S (-1)) t n 129 true p S) ∧ rSz (topL (fun p S => fldD t n 17 0 p S (-1)) t n 129 true p S) ≤ 128 := topL_ok hFo _ _ _ _ hs8
  have kk0 : z_K (fun y => y = 6 ∨ y = r ∨ y = r + 1) h h := z_K.rf
  refine lv_iconst (v := 0) hx hb d_SchemaReader_readSchema_0 (by decide) ?_
  refine lv_istore_n (lv' := [(1, .int 0), (0, .ref rd)]) hx hb d_SchemaReader_readSchema_1 rfl hl (by decide) rfl (fun ls hl => ?_)
  have loop_2 : ∀ (fuel : Nat) (k1 : Nat) (p1 : Nat) (S1 : Sch) (fa1 : Int32) (ws1 : Int32) (wd1 : Int32) (hL : z_H) (H : Heap) (locs : List Loc) (ls : Array Slot) (L2_rd : hL rd = some ((7, 0), .inr (8, [.ref sc, .ref q]))) (L2_sc : hL sc = some ((6, 0), .inr (7, [.ref b, .int (nI n), .int (nI p1), .int fa1, .int ws1, .int wd1]))) (L2_b : hL b = some ((3, 0), .inl (g.2.1 0, len, .inl f))) (kkL : z_K (fun y => y = 6 ∨ y = r ∨ y = r + 1) h hL) (sA1 : SchAt g hL r q S1) (gO1 : grOK S1) (le1 : p1 ≤ n ∧ S.1 ≤ S1.1 ∧ S1.1 ≤ 128 ∧ k1 ≤ 129 ∧ S1.1 ≤ rSz (topL (fun p S => fldD t n 17 0 p S (-1)) t n 129 true p S)) (hR1 : topL (fun p S => fldD t n 17 0 p S (-1)) t n (129 - k1) (decide (k1 = 0)) p1 S1 = topL (fun p S => fldD t n 17 0 p S (-1)) t n 129 true p S), (129 - k1) < fuel → z_S g A s.heap hL H locs → lv_has ls 2 [(0, .ref rd), (1, .int (nI k1))] → W pg l en { frames := 201, cells := 2 * (rSz (topL (fun p S => fldD t n 17 0 p S (-1)) t n 129 true p S) - S.1), slots := 25 * (rSz (topL (fun p S => fldD t n 17 0 p S (-1)) t n 129 true p S) - S.1), locals := 5900 } s m [.ref rd].toArray below meth cd H locs (2 * (S1.1 - S.1)) (25 * (S1.1 - S.1)) (MQ below (z_Q g A (rdP g (topL (fun p S => fldD t n 17 0 p S (-1)) t n 129 true p S) h r q sc b n)) [.ref rd].toArray s (2 * (rSz (topL (fun p S => fldD t n 17 0 p S (-1)) t n 129 true p S) - S.1)) (25 * (rSz (topL (fun p S => fldD t n 17 0 p S (-1)) t n 129 true p S) - S.1)) A) (F0 m 2 ls []) := by
    intro fuel
    induction fuel with
    | zero => intro k1 p1 S1 fa1 ws1 wd1 hL H locs ls L2_rd L2_sc L2_b kkL sA1 gO1 le1 hR1 hm; exact absurd hm (Nat.not_lt_zero _)
    | succ fuel ih_2 =>
      intro k1 p1 S1 fa1 ws1 wd1 hL H locs ls L2_rd L2_sc L2_b kkL sA1 gO1 le1 hR1 hm hw hl
      refine lv_iload_n hx hb d_SchemaReader_readSchema_2 rfl (lv_at hl 1 rfl) ?_
      refine lv_sipush (v := 128) hx hb d_SchemaReader_readSchema_3 (by decide) ?_
      refine lv_icmp_gt (tgt := 43) hx hb d_SchemaReader_readSchema_6 (by decide) (fun c_6 => ?_) (fun c_6 => ?_)
      · -- 6: True
        have c_6 : 128 < k1 := (nI_ltI (a := 128) (b := k1) (by omega) (by omega)).mp c_6
        refine lv_aload_n hx hb d_SchemaReader_readSchema_43 rfl (lv_at hl 0 rfl) ?_
        refine z_get hx hb hts (z_lay i_SchemaReader) hown hK hw L2_rd rfl 0 (by decide) (z_in k_220 rfl) (fun _ h9 => h9) rfl d_SchemaReader_readSchema_44 ?_
        refine z_callV (n := 0) (As := []) (rest := []) ⟨hx, hb, hml, hown, hts⟩ (c_Scanner_failHere l g hL L2_sc) (z_in k_258 rfl) (z_in k_8 rfl) (z_in k_457 rfl) (z_in k_256 rfl) (z_in k_257 rfl) (by decide +kernel) ⟨by first | exact Nat.le_of_ble_eq_true rfl | (dsimp only; omega) | omega, by first | exact Nat.le_of_ble_eq_true rfl | (dsimp only; omega) | omega⟩ hK hE hw hA rfl L2_sc rfl hl.1 (Nat.le_of_ble_eq_true rfl) d_SchemaReader_readSchema_47 ⟨by first | exact Nat.le_of_ble_eq_true rfl | (dsimp only; omega) | omega, by first | exact Nat.le_of_ble_eq_true rfl | (dsimp only; omega) | omega⟩ rfl (fun r9 h9 H locs hp hw => ?_)
        obtain ⟨r8, hh1⟩ := hp
        subst r8
        obtain ⟨h1, e8⟩ : ∃ x9, x9 = h9 := ⟨_, rfl⟩
        subst e8
        have f1_rd : h1 rd = some ((7, 0), .inr (8, [.ref sc, .ref q])) := by rw [← hh1]; exact z_keep L2_sc L2_rd (z_t1 (by decide))
        have f1_sc : h1 sc = some ((6, 0), .inr (7, [.ref b, .int (nI n), .int (nI p1), .int (nI p1), .int ws1, .int wd1])) := by rw [← hh1]; exact z_put_eq
        have f1_b : h1 b = some ((3, 0), .inl (g.2.1 0, len, .inl f)) := by rw [← hh1]; exact z_keep L2_sc L2_b (z_t1 (by decide))
        have kk1 : z_K (fun y => y = 6 ∨ y = r ∨ y = r + 1) h h1 := kkL.tr (by rw [← hh1]; exact z_K.put L2_sc (by first | decide | simp | omega))
        refine W.eq (g2 := F0 m 50 ls [.int 0]) rfl ?_
        have eW : topL (fun p S => fldD t n 17 0 p S (-1)) t n 129 true p S = .inl (p1, S1.1) := by
          rw [← hR1]
          rw [show 129 - k1 = 0 by omega]; rfl
        have eZ : rSz (topL (fun p S => fldD t n 17 0 p S (-1)) t n 129 true p S) = S1.1 := by rw [eW]; rfl
        exact z_zret hx hb hr rfl hlocks hw (by rw [eW]; exact ⟨kk1, rfl, _, _, _, _, f1_sc, rfl⟩) (by first | exact Nat.le_of_ble_eq_true rfl | (dsimp only; omega) | omega) (by first | exact Nat.le_of_ble_eq_true rfl | (dsimp only; omega) | omega) d_SchemaReader_readSchema_50
      · -- 6: False
        have c_6 : ¬ (128 < k1) := fun z => c_6 ((nI_ltI (a := 128) (b := k1) (by omega) (by omega)).mpr z)
        refine lv_iload_n hx hb d_SchemaReader_readSchema_9 rfl (lv_at hl 1 rfl) ?_
        refine lv_if_le (tgt := 26) hx hb d_SchemaReader_readSchema_10 (by decide) (fun c_10 => ?_) (fun c_10 => ?_)
        · -- 10: True
          have c_10 : k1 ≤ 0 := (nI_leI (a := k1) (b := 0) (by omega) (by omega)).mp c_10
          have hM8 : rSz (fldD t n 17 0 p1 S1 (-1)) ≤ rSz (topL (fun p S => fldD t n 17 0 p S (-1)) t n 129 true p S) := by
            rw [← hR1, show 129 - k1 = (129 - (k1 + 1)) + 1 by omega]
            rw [decide_eq_true (show k1 = 0 by omega)]; exact topL_mid (first := true) hFo (by omega) (by simp)
          have ok8 : S1.1 ≤ rSz (fldD t n 17 0 p1 S1 (-1)) ∧ rSz (fldD t n 17 0 p1 S1 (-1)) ≤ 128 := hFo p1 S1 (by omega)
          refine lv_aload_n hx hb d_SchemaReader_readSchema_26 rfl (lv_at hl 0 rfl) ?_
          refine lv_iconst (v := (-1)) hx hb d_SchemaReader_readSchema_27 (by decide) ?_
          refine lv_iconst (v := 0) hx hb d_SchemaReader_readSchema_28 (by decide) ?_
          refine z_callV (n := 2) (As := [.int (-1), .int 0]) (rest := []) ⟨hx, hb, hml, hown, hts⟩ (c_readField_top l g hn hlen hf hl29 hl16 hfb hr0 hL p1 S1 _ _ _ L2_rd L2_sc L2_b (by omega) (sA1.k (R := fun y => y = 6) (z_K.rf) (by omega) (by omega) (by omega)) gO1 (by omega)) (z_in k_242 rfl) (z_in k_9 rfl) (z_in k_239 rfl) (z_in k_241 rfl) (z_in ks_0 rfl) (by decide +kernel) ⟨by first | exact Nat.le_of_ble_eq_true rfl | (dsimp only; omega) | omega, by first | exact Nat.le_of_ble_eq_true rfl | (dsimp only; omega) | omega⟩ hK hE hw hA rfl L2_rd rfl hl.1 (Nat.le_of_ble_eq_true rfl) d_SchemaReader_readSchema_29 ⟨by first | exact Nat.le_of_ble_eq_true rfl | (dsimp only; omega) | omega, by first | exact Nat.le_of_ble_eq_true rfl | (dsimp only; omega) | omega⟩ rfl (fun r9 h9 H locs hp hw => ?_)
          obtain ⟨kk8, hp⟩ := hp
          rcases hR8 : fldD t n 17 0 p1 S1 (-1) with ⟨F8, m8⟩ | ⟨p8, S8⟩
          · -- read False
            rw [hR8] at hp
            have hz8 : rSz (fldD t n 17 0 p1 S1 (-1)) = m8 := by rw [hR8]; rfl
            have hz7 : rSz (.inl (F8, m8) : Res) = m8 := rfl
            obtain ⟨r8, pf8, f8, w8, d8, e8, g8⟩ := hp
            subst r8
            obtain ⟨h2, e7⟩ : ∃ x9, x9 = h9 := ⟨_, rfl⟩
            subst e7
            have g2_rd : h2 rd = some ((7, 0), .inr (8, [.ref sc, .ref q])) := kk8 _ _ _ L2_rd (by simp; try omega)
            have g2_b : h2 b = some ((3, 0), .inl (g.2.1 0, len, .inl f)) := kk8 _ _ _ L2_b (by simp; try omega)
            have kk2 : z_K (fun y => y = 6 ∨ y = r ∨ y = r + 1) h h2 := kkL.tr kk8
            refine W.eq (g2 := F0 m 32 ls [.int 0]) rfl ?_
            refine lv_if_ne (tgt := 37) hx hb d_SchemaReader_readSchema_32 (by decide) (fun c_32 => ?_) (fun c_32 => ?_)
            · -- 32: True
              exact absurd (by decide) c_32
            · -- 32: False
              refine lv_iconst (v := 0) hx hb d_SchemaReader_readSchema_35 (by decide) ?_
              have eW : topL (fun p S => fldD t n 17 0 p S (-1)) t n 129 true p S = .inl (F8, m8) := by
                rw [← hR1]
                rw [show 129 - k1 = (129 - (k1 + 1)) + 1 by omega]; simp only [topL]; rw [decide_eq_true (show k1 = 0 by omega), if_neg (by simp), if_pos rfl, hR8]
              have eZ : rSz (topL (fun p S => fldD t n 17 0 p S (-1)) t n 129 true p S) = m8 := by rw [eW]; rfl
              exact z_zret hx hb hr rfl hlocks hw (by rw [eW]; exact ⟨kk2, rfl, _, _, _, _, e8, g8⟩) (by first | exact Nat.le_of_ble_eq_true rfl | (dsimp only; omega) | omega) (by first | exact Nat.le_of_ble_eq_true rfl | (dsimp only; omega) | omega) d_SchemaReader_readSchema_36
          · -- read True
            rw [hR8] at hp
            have hz8 : rSz (fldD t n 17 0 p1 S1 (-1)) = S8.1 := by rw [hR8]; rfl
            have hz7 : rSz (.inr (p8, S8) : Res) = S8.1 := rfl
            obtain ⟨r8, ⟨f8, w8, d8, e8⟩, le8, sA8, gO8⟩ := hp
            subst r8
            obtain ⟨h3, e7⟩ : ∃ x9, x9 = h9 := ⟨_, rfl⟩
            subst e7
            have g3_rd : h3 rd = some ((7, 0), .inr (8, [.ref sc, .ref q])) := kk8 _ _ _ L2_rd (by simp; try omega)
            have g3_b : h3 b = some ((3, 0), .inl (g.2.1 0, len, .inl f)) := kk8 _ _ _ L2_b (by simp; try omega)
            have kk3 : z_K (fun y => y = 6 ∨ y = r ∨ y = r + 1) h h3 := kkL.tr kk8
            refine W.eq (g2 := F0 m 32 ls [.int 1]) rfl ?_
            refine lv_if_ne (tgt := 37) hx hb d_SchemaReader_readSchema_32 (by decide) (fun c_32 => ?_) (fun c_32 => ?_)
            · -- 32: True
              refine lv_iinc (v := nI (k1 + 1)) (lv' := [(1, .int (nI (k1 + 1))), (0, .ref rd)]) hx hb d_SchemaReader_readSchema_37 hl (k := 1) rfl (nI_1 k1) (by decide) rfl (fun ls hl => ?_)
              refine lv_goto (tgt := 2) hx hb d_SchemaReader_readSchema_40 (by decide) ?_
              refine W.widen (k := 2 * (S8.1 - S.1)) (n := 25 * (S8.1 - S.1)) (by first | exact Nat.le_of_ble_eq_true rfl | (dsimp only; omega) | omega) (by first | exact Nat.le_of_ble_eq_true rfl | (dsimp only; omega) | omega) ?_
              refine ih_2 (k1 + 1) p8 S8 f8 w8 d8 h3 _ _ _ g3_rd e8 g3_b kk3 sA8 gO8 (⟨le8, by omega, by omega, by omega, by omega⟩) (by rw [← hR1, show 129 - k1 = (129 - (k1 + 1)) + 1 by omega]; simp only [topL]; rw [decide_eq_true (show k1 = 0 by omega), if_neg (by simp), if_pos rfl, hR8]; simp) ?_ hw (lv_sub hl [1, 0] rfl)
              omega
            · -- 32: False
              exact absurd c_32 (by decide)
        · -- 10: False
          have c_10 : ¬ (k1 ≤ 0) := fun z => c_10 ((nI_leI (a := k1) (b := 0) (by omega) (by omega)).mpr z)
          have sk3 := sk_le (t := t) le1.1
          have sk4 := sk_ge t n p1
          refine lv_aload_n hx hb d_SchemaReader_readSchema_13 rfl (lv_at hl 0 rfl) ?_
          refine z_get hx hb hts (z_lay i_SchemaReader) hown hK hw L2_rd rfl 0 (by decide) (z_in k_220 rfl) (fun _ h9 => h9) rfl d_SchemaReader_readSchema_14 ?_
          refine z_callV (n := 0) (As := []) (rest := []) ⟨hx, hb, hml, hown, hts⟩ (c_Scanner_next l g hL L2_sc L2_b hn hlen hf (by omega)) (z_in k_234 rfl) (z_in k_8 rfl) (z_in k_231 rfl) (z_in k_232 rfl) (z_in k_233 rfl) (by decide +kernel) ⟨by first | exact Nat.le_of_ble_eq_true rfl | (dsimp only; omega) | omega, by first | exact Nat.le_of_ble_eq_true rfl | (dsimp only; omega) | omega⟩ hK hE hw hA rfl L2_sc rfl hl.1 (Nat.le_of_ble_eq_true rfl) d_SchemaReader_readSchema_17 ⟨by first | exact Nat.le_of_ble_eq_true rfl | (dsimp only; omega) | omega, by first | exact Nat.le_of_ble_eq_true rfl | (dsimp only; omega) | omega⟩ rfl (fun r9 h9 H locs hp hw => ?_)
          obtain ⟨r8, hh4⟩ := hp
          subst r8
          obtain ⟨h4, e8⟩ : ∃ x9, x9 = h9 := ⟨_, rfl⟩
          subst e8
          have f4_rd : h4 rd = some ((7, 0), .inr (8, [.ref sc, .ref q])) := by rw [← hh4]; exact z_keep L2_sc L2_rd (z_t1 (by decide))
          have f4_sc : h4 sc = some ((6, 0), .inr (7, [.ref b, .int (nI n), .int (nI (sk t n p1)), .int fa1, .int ws1, .int wd1])) := by rw [← hh4]; exact z_put_eq
          have f4_b : h4 b = some ((3, 0), .inl (g.2.1 0, len, .inl f)) := by rw [← hh4]; exact z_keep L2_sc L2_b (z_t1 (by decide))
          have kk4 : z_K (fun y => y = 6 ∨ y = r ∨ y = r + 1) h h4 := kkL.tr (by rw [← hh4]; exact z_K.put L2_sc (by first | decide | simp | omega))
          refine W.eq (g2 := F0 m 20 ls [.int (bt t n (sk t n p1))]) rfl ?_
          refine lv_iconst (v := (-1)) hx hb d_SchemaReader_readSchema_20 (by decide) ?_
          refine lv_icmp_ne (tgt := 26) hx hb d_SchemaReader_readSchema_21 (by decide) (fun c_21 => ?_) (fun c_21 => ?_)
          · -- 21: True
            have hM8 : rSz (fldD t n 17 0 (sk t n p1) S1 (-1)) ≤ rSz (topL (fun p S => fldD t n 17 0 p S (-1)) t n 129 true p S) := by
              rw [← hR1, show 129 - k1 = (129 - (k1 + 1)) + 1 by omega]
              rw [decide_eq_false (show ¬ k1 = 0 by omega)]; exact topL_mid (first := false) hFo (by omega) (fun z => c_21 z.2)
            have ok8 : S1.1 ≤ rSz (fldD t n 17 0 (sk t n p1) S1 (-1)) ∧ rSz (fldD t n 17 0 (sk t n p1) S1 (-1)) ≤ 128 := hFo (sk t n p1) S1 (by omega)
            refine lv_aload_n hx hb d_SchemaReader_readSchema_26 rfl (lv_at hl 0 rfl) ?_
            refine lv_iconst (v := (-1)) hx hb d_SchemaReader_readSchema_27 (by decide) ?_
            refine lv_iconst (v := 0) hx hb d_SchemaReader_readSchema_28 (by decide) ?_
            refine z_callV (n := 2) (As := [.int (-1), .int 0]) (rest := []) ⟨hx, hb, hml, hown, hts⟩ (c_readField_top l g hn hlen hf hl29 hl16 hfb hr0 h4 (sk t n p1) S1 _ _ _ f4_rd f4_sc f4_b (by omega) (sA1.k (R := fun y => y = 6) (by rw [← hh4]; exact z_K.put L2_sc rfl) (by omega) (by omega) (by omega)) gO1 (by omega)) (z_in k_242 rfl) (z_in k_9 rfl) (z_in k_239 rfl) (z_in k_241 rfl) (z_in ks_0 rfl) (by decide +kernel) ⟨by first | exact Nat.le_of_ble_eq_true rfl | (dsimp only; omega) | omega, by first | exact Nat.le_of_ble_eq_true rfl | (dsimp only; omega) | omega⟩ hK hE hw hA rfl f4_rd rfl hl.1 (Nat.le_of_ble_eq_true rfl) d_SchemaReader_readSchema_29 ⟨by first | exact Nat.le_of_ble_eq_true rfl | (dsimp only; omega) | omega, by first | exact Nat.le_of_ble_eq_true rfl | (dsimp only; omega) | omega⟩ rfl (fun r9 h9 H locs hp hw => ?_)
            obtain ⟨kk8, hp⟩ := hp
            rcases hR8 : fldD t n 17 0 (sk t n p1) S1 (-1) with ⟨F8, m8⟩ | ⟨p8, S8⟩
            · -- read False
              rw [hR8] at hp
              have hz8 : rSz (fldD t n 17 0 (sk t n p1) S1 (-1)) = m8 := by rw [hR8]; rfl
              have hz7 : rSz (.inl (F8, m8) : Res) = m8 := rfl
              obtain ⟨r8, pf8, f8, w8, d8, e8, g8⟩ := hp
              subst r8
              obtain ⟨h5, e7⟩ : ∃ x9, x9 = h9 := ⟨_, rfl⟩
              subst e7
              have g5_rd : h5 rd = some ((7, 0), .inr (8, [.ref sc, .ref q])) := kk8 _ _ _ f4_rd (by simp; try omega)
              have g5_b : h5 b = some ((3, 0), .inl (g.2.1 0, len, .inl f)) := kk8 _ _ _ f4_b (by simp; try omega)
              have kk5 : z_K (fun y => y = 6 ∨ y = r ∨ y = r + 1) h h5 := kk4.tr kk8
              refine W.eq (g2 := F0 m 32 ls [.int 0]) rfl ?_
              refine lv_if_ne (tgt := 37) hx hb d_SchemaReader_readSchema_32 (by decide) (fun c_32 => ?_) (fun c_32 => ?_)
              · -- 32: True
                exact absurd (by decide) c_32
              · -- 32: False
                refine lv_iconst (v := 0) hx hb d_SchemaReader_readSchema_35 (by decide) ?_
                have eW : topL (fun p S => fldD t n 17 0 p S (-1)) t n 129 true p S = .inl (F8, m8) := by
                  rw [← hR1]
                  rw [show 129 - k1 = (129 - (k1 + 1)) + 1 by omega]; simp only [topL]; rw [decide_eq_false (show ¬ k1 = 0 by omega), if_neg (fun z => c_21 z.2), if_neg (by decide), hR8]
                have eZ : rSz (topL (fun p S => fldD t n 17 0 p S (-1)) t n 129 true p S) = m8 := by rw [eW]; rfl
                exact z_zret hx hb hr rfl hlocks hw (by rw [eW]; exact ⟨kk5, rfl, _, _, _, _, e8, g8⟩) (by first | exact Nat.le_of_ble_eq_true rfl | (dsimp only; omega) | omega) (by first | exact Nat.le_of_ble_eq_true rfl | (dsimp only; omega) | omega) d_SchemaReader_readSchema_36
            · -- read True
              rw [hR8] at hp
              have hz8 : rSz (fldD t n 17 0 (sk t n p1) S1 (-1)) = S8.1 := by rw [hR8]; rfl
              have hz7 : rSz (.inr (p8, S8) : Res) = S8.1 := rfl
              obtain ⟨r8, ⟨f8, w8, d8, e8⟩, le8, sA8, gO8⟩ := hp
              subst r8
              obtain ⟨h6, e7⟩ : ∃ x9, x9 = h9 := ⟨_, rfl⟩
              subst e7
              have g6_rd : h6 rd = some ((7, 0), .inr (8, [.ref sc, .ref q])) := kk8 _ _ _ f4_rd (by simp; try omega)
              have g6_b : h6 b = some ((3, 0), .inl (g.2.1 0, len, .inl f)) := kk8 _ _ _ f4_b (by simp; try omega)
              have kk6 : z_K (fun y => y = 6 ∨ y = r ∨ y = r + 1) h h6 := kk4.tr kk8
              refine W.eq (g2 := F0 m 32 ls [.int 1]) rfl ?_
              refine lv_if_ne (tgt := 37) hx hb d_SchemaReader_readSchema_32 (by decide) (fun c_32 => ?_) (fun c_32 => ?_)
              · -- 32: True
                refine lv_iinc (v := nI (k1 + 1)) (lv' := [(1, .int (nI (k1 + 1))), (0, .ref rd)]) hx hb d_SchemaReader_readSchema_37 hl (k := 1) rfl (nI_1 k1) (by decide) rfl (fun ls hl => ?_)
                refine lv_goto (tgt := 2) hx hb d_SchemaReader_readSchema_40 (by decide) ?_
                refine W.widen (k := 2 * (S8.1 - S.1)) (n := 25 * (S8.1 - S.1)) (by first | exact Nat.le_of_ble_eq_true rfl | (dsimp only; omega) | omega) (by first | exact Nat.le_of_ble_eq_true rfl | (dsimp only; omega) | omega) ?_
                refine ih_2 (k1 + 1) p8 S8 f8 w8 d8 h6 _ _ _ g6_rd e8 g6_b kk6 sA8 gO8 (⟨le8, by omega, by omega, by omega, by omega⟩) (by rw [← hR1, show 129 - k1 = (129 - (k1 + 1)) + 1 by omega]; simp only [topL]; rw [decide_eq_false (show ¬ k1 = 0 by omega), if_neg (fun z => c_21 z.2), if_neg (by decide), hR8]; simp) ?_ hw (lv_sub hl [1, 0] rfl)
                omega
              · -- 32: False
                exact absurd c_32 (by decide)
          · -- 21: False
            refine lv_iconst (v := 1) hx hb d_SchemaReader_readSchema_24 (by decide) ?_
            have eW : topL (fun p S => fldD t n 17 0 p S (-1)) t n 129 true p S = .inr (sk t n p1, S1) := by
              rw [← hR1]
              rw [show 129 - k1 = (129 - (k1 + 1)) + 1 by omega]; simp only [topL]; rw [decide_eq_false (show ¬ k1 = 0 by omega), if_pos ⟨rfl, c_21⟩]
            have eZ : rSz (topL (fun p S => fldD t n 17 0 p S (-1)) t n 129 true p S) = S1.1 := by rw [eW]; rfl
            exact z_zret hx hb hr rfl hlocks hw (by rw [eW]; exact ⟨kk4, rfl, ⟨_, _, _, f4_sc⟩, by omega, sA1.k (R := fun y => y = 6) (by rw [← hh4]; exact z_K.put L2_sc rfl) (by omega) (by omega) (by omega), gO1⟩) (by first | exact Nat.le_of_ble_eq_true rfl | (dsimp only; omega) | omega) (by first | exact Nat.le_of_ble_eq_true rfl | (dsimp only; omega) | omega) d_SchemaReader_readSchema_25
  refine W.widen (k := 2 * (S.1 - S.1)) (n := 25 * (S.1 - S.1)) (by first | exact Nat.le_of_ble_eq_true rfl | (dsimp only; omega) | omega) (by first | exact Nat.le_of_ble_eq_true rfl | (dsimp only; omega) | omega) ?_
  exact loop_2 (129 - 0 + 1) 0 p S fa ws wd h _ _ _ hrd hsc hb0 kk0 hA9 hg (⟨hp, by omega, by omega, by omega, rOK.1⟩) rfl (by omega) hw (lv_sub hl [1, 0] rfl)

set_option maxHeartbeats 4000000 in
set_option maxRecDepth 100000 in
theorem c_SchemaReader_init (l : Launch) (g : z_G) (h : z_H) {rd sc q : Nat} (hrd : h rd = some ((7, 0), .inr (8, [.null, .null])))  : z_C l y_SchemaReader_init prog_10_method_1_code 3 (Option.none : Option Jvm.ClassFile.FieldType) 1 12 0 0 g [.ref rd, .ref sc, .ref q] h (fun x h1 => x = none ∧ z_put h rd (7, 0) (.inr (8, [.ref sc, .ref q])) = h1) := by
  refine z_C.of (by decide) (Nat.le_of_ble_eq_true rfl) (fun pg en s m below meth cd A ls hx hb hml hr hts hown hlocks hnm hK hE hA hw hl => ?_)
  have hl : lv_has ls 3 [(0, .ref rd), (1, .ref sc), (2, .ref q)] := hl
  refine lv_aload_n hx hb d_SchemaReader_init_0 rfl (lv_at hl 0 rfl) ?_
  refine W.objInit hx hb hown (hts _ (z_in k_219 rfl)) (hts _ (z_in k_26 rfl)) (hts _ (z_in k_27 rfl)) rfl (by rw [hml]; exact hl.1) rfl d_SchemaReader_init_1 (Nat.le_of_ble_eq_true rfl) (Nat.le_of_ble_eq_true rfl) ?_
  refine W.eq (g2 := F0 m 4 ls []) rfl ?_
  refine lv_aload_n hx hb d_SchemaReader_init_4 rfl (lv_at hl 0 rfl) ?_
  refine lv_aload_n hx hb d_SchemaReader_init_5 rfl (lv_at hl 1 rfl) ?_
  refine z_putF (ty := .object "SchemaRecords$Scanner") hx hb hts (z_lay i_SchemaReader) t_SchemaReader t_SchemaReader_ok n_SchemaReader hown hK hw hrd rfl 0 (by decide) (z_in k_220 rfl) (fun _ h9 => h9) rfl hnm rfl (by decide +kernel) rfl rfl (Nat.le_of_ble_eq_true rfl) d_SchemaReader_init_6 (fun H locs hw => ?_)
  obtain ⟨h1, hh1⟩ : ∃ x9, z_put h rd (7, 0) (.inr (8, [.ref sc, .null])) = x9 := ⟨_, rfl⟩
  have hw : z_S g A s.heap h1 H locs := by rw [← hh1]; exact hw
  have f1_rd : h1 rd = some ((7, 0), .inr (8, [.ref sc, .null])) := by rw [← hh1]; exact z_put_eq
  refine lv_aload_n hx hb d_SchemaReader_init_9 rfl (lv_at hl 0 rfl) ?_
  refine lv_aload_n hx hb d_SchemaReader_init_10 rfl (lv_at hl 2 rfl) ?_
  refine z_putF (ty := .object "SchemaRecords$Schema") hx hb hts (z_lay i_SchemaReader) t_SchemaReader t_SchemaReader_ok n_SchemaReader hown hK hw f1_rd rfl 1 (by decide) (z_in k_221 rfl) (fun _ h9 => h9) rfl hnm rfl (by decide +kernel) rfl rfl (Nat.le_of_ble_eq_true rfl) d_SchemaReader_init_11 (fun H locs hw => ?_)
  obtain ⟨h2, hh2⟩ : ∃ x9, z_put h1 rd (7, 0) (.inr (8, [.ref sc, .ref q])) = x9 := ⟨_, rfl⟩
  have hw : z_S g A s.heap h2 H locs := by rw [← hh2]; exact hw
  have f2_rd : h2 rd = some ((7, 0), .inr (8, [.ref sc, .ref q])) := by rw [← hh2]; exact z_put_eq
  exact z_vret hx hb hr hlocks hw ⟨rfl, by rw [← hh2, ← hh1, z_put_put]⟩ (by decide) (by decide) d_SchemaReader_init_14

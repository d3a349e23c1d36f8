theorem sk_sk (t : Nat → Nat) (n p : Nat) : sk t n (sk t n p) = sk t n p := by
  apply sk_stop
  intro h
  have key : ∀ r p, skR t r p < p + r → isBl (t (skR t r p)) = false := by
    intro r
    induction r with
    | zero => intro p h; simp only [skR] at h; omega
    | succ r ih =>
      intro p h
      simp only [skR] at h ⊢
      split
      · rename_i hb
        rw [if_pos hb] at h
        exact ih (p + 1) (by omega)
      · rename_i hb
        cases h2 : isBl (t p) with
        | false => rfl
        | true => exact absurd h2 hb
  have hge := sk_ge t n p
  exact key (n - p) p (by unfold sk at h hge; omega)
theorem fieldR_ok {G : Nat → Sch → Nat → Res} {t : Nat → Nat} {n p d : Nat} {S : Sch} {gr : Int32} (hG : ∀ e S1 gi, S1.1 ≤ 128 → resOK S1 (G e S1 gi)) (hS : S.1 ≤ 128) : resOK S (fieldR G t n p S gr d) := by
  unfold fieldR
  cases rdW t n p [0, 1, 2] with
  | inl F => exact ⟨Nat.le_refl _, hS⟩
  | inr x =>
    dsimp only
    cases rdW t n x.2 [3, 4, 5, 6, 7] with
    | inl F => exact ⟨Nat.le_refl _, hS⟩
    | inr y =>
      dsimp only
      split
      · split
        · rename_i hst
          have h128 : S.1 < 128 := by
            unfold nmSt at hst
            simp at hst
            exact hst.1.1.2.1
          split
          · have h := hG (we t n (sk t n y.2)) (addF S x.1 y.1 gr (nmL t (sk t n y.2) (we t n (sk t n y.2)))) S.1 (show S.1 + 1 ≤ 128 by omega)
            exact ⟨Nat.le_trans (Nat.le_succ _) h.1, h.2⟩
          · unfold sgn
            split
            · exact ⟨Nat.le_succ _, show S.1 + 1 ≤ 128 by omega⟩
            · exact ⟨Nat.le_succ _, show S.1 + 1 ≤ 128 by omega⟩
        · exact ⟨Nat.le_refl _, hS⟩
      · exact ⟨Nat.le_refl _, hS⟩
theorem grpL_ok {FR : Nat → Sch → Res} {t : Nat → Nat} {n : Nat} (hF : ∀ p S, S.1 ≤ 128 → resOK S (FR p S)) : ∀ (c : Nat) (first : Bool) (p : Nat) (S : Sch), S.1 ≤ 128 → resOK S (grpL FR t n c first p S) := by
  intro c
  induction c with
  | zero => intro first p S hS; exact ⟨Nat.le_refl _, hS⟩
  | succ c ih =>
    intro first p S hS
    unfold grpL
    split
    · exact ⟨Nat.le_refl _, hS⟩
    · have h := hF (if first = true then p else sk t n p) S hS
      generalize FR (if first = true then p else sk t n p) S = R at h
      cases R with
      | inl x => exact h
      | inr y =>
        have h2 := ih false y.1 y.2 h.2
        exact ⟨Nat.le_trans h.1 h2.1, h2.2⟩
theorem grpL_mid {FR : Nat → Sch → Res} {t : Nat → Nat} {n : Nat} (hF : ∀ p S, S.1 ≤ 128 → resOK S (FR p S)) {c : Nat} {first : Bool} {p : Nat} {S : Sch} (hS : S.1 ≤ 128) (hne : ¬ (first = false ∧ bt t n (sk t n p) = 125)) : rSz (FR (if first = true then p else sk t n p) S) ≤ rSz (grpL FR t n (c + 1) first p S) := by
  simp only [grpL]
  rw [if_neg hne]
  have h := hF (if first = true then p else sk t n p) S hS
  generalize FR (if first = true then p else sk t n p) S = R at h
  cases R with
  | inl x => exact Nat.le_refl _
  | inr y => exact (grpL_ok hF c false y.1 y.2 h.2).1
theorem grpR_ok {FR : Nat → Sch → Res} {t : Nat → Nat} {n : Nat} (hF : ∀ p S, S.1 ≤ 128 → resOK S (FR p S)) (p : Nat) (S : Sch) (hS : S.1 ≤ 128) : resOK S (grpR FR t n p S) := by
  unfold grpR
  split
  · exact grpL_ok hF _ _ _ _ hS
  · exact ⟨Nat.le_refl _, hS⟩
theorem fldD_ok {t : Nat → Nat} {n : Nat} : ∀ (D d p : Nat) (S : Sch) (gr : Int32), S.1 ≤ 128 → resOK S (fldD t n D d p S gr) := by
  intro D
  induction D with
  | zero => intro d p S gr hS; exact ⟨Nat.le_refl _, hS⟩
  | succ D ih =>
    intro d p S gr hS
    unfold fldD
    exact fieldR_ok (fun e S1 gi h1 => grpR_ok (fun p S h => ih (d + 1) p S (nI gi) h) e S1 h1) hS
theorem topL_ok {FR : Nat → Sch → Res} {t : Nat → Nat} {n : Nat} (hF : ∀ p S, S.1 ≤ 128 → resOK S (FR p S)) : ∀ (c : Nat) (first : Bool) (p : Nat) (S : Sch), S.1 ≤ 128 → resOK S (topL FR t n c first p S) := by
  intro c
  induction c with
  | zero => intro first p S hS; exact ⟨Nat.le_refl _, hS⟩
  | succ c ih =>
    intro first p S hS
    unfold topL
    split
    · exact ⟨Nat.le_refl _, hS⟩
    · have h := hF (if first = true then p else sk t n p) S hS
      generalize FR (if first = true then p else sk t n p) S = R at h
      cases R with
      | inl x => exact h
      | inr y =>
        have h2 := ih false y.1 y.2 h.2
        exact ⟨Nat.le_trans h.1 h2.1, h2.2⟩

theorem bt_lt {t : Nat → Nat} {n p : Nat} {c : Nat} (h : bt t n p = nI c) (hc : c < 2 ^ 31 := by decide) : p < n := by
  apply Classical.byContradiction
  intro z
  rw [bt_out z] at h
  have := congrArg Int32.toInt h
  rw [nI_toInt hc] at this
  have h2 : (-1 : Int32).toInt = -1 := rfl
  omega

set_option maxHeartbeats 4000000 in
set_option maxRecDepth 100000 in
theorem c_readGroup_of (l : Launch) (g : z_G) (h : z_H) {r q : Nat} {S : Sch} {rd sc b len n p gi d fF lF : Nat} {f : Nat → Int32} {fa ws wd : Int32} {t : Nat → Nat} {FR : Nat → Sch → Res} (hrd : h rd = some ((7, 0), .inr (8, [.ref sc, .ref q]))) (hsc : h sc = some ((6, 0), .inr (7, [.ref b, .int (nI n), .int (nI p), .int fa, .int ws, .int wd]))) (hb0 : h b = some ((3, 0), .inl (g.2.1 0, len, .inl f))) (hn : n ≤ len) (hlen : len < 2 ^ 31) (hf : ∀ k, k < n → t k < 256 ∧ f k = sb_b (t k)) (hp : p ≤ n) (hr : 100 ≤ r) (hA9 : SchAt g h r q S) (hg : grOK S) (hgi : gi < S.1) (hs8 : S.1 ≤ 128) (hF : ∀ (h : z_H) (p : Nat) (S : Sch) (fa ws wd : Int32), h rd = some ((7, 0), .inr (8, [.ref sc, .ref q])) → h sc = some ((6, 0), scE b n p fa ws wd) → h b = some ((3, 0), .inl (g.2.1 0, len, .inl f)) → p ≤ n → SchAt g h r q S → grOK S → gi < S.1 → S.1 ≤ 128 → z_C l y_SchemaReader_readField prog_10_method_3_code 6 (Option.some Jvm.ClassFile.FieldType.boolean) fF lF (2 * (rSz (FR p S) - S.1)) (25 * (rSz (FR p S) - S.1)) g [.ref rd, .int (nI gi), .int (nI d)] h (rdP g (FR p S) h r q sc b n)) (hFo : ∀ p S, S.1 ≤ 128 → resOK S (FR p S)) : z_C l y_SchemaReader_readGroup prog_10_method_4_code 4 (Option.some Jvm.ClassFile.FieldType.boolean) (fF + 4) (lF + 100) (2 * (rSz (grpR FR t n p S) - S.1)) (25 * (rSz (grpR FR t n p S) - S.1)) g [.ref rd, .int (nI gi), .int (nI d)] h (rdP g (grpR FR t n p S) h r q sc b n) := by
  refine z_C.of (by decide) (Nat.le_of_ble_eq_true rfl) (fun pg en s m below meth cd A ls hx hb hml hr hts hown hlocks hnm hK hE hA hw hl => ?_)
  have hl : lv_has ls 4 [(0, .ref rd), (1, .int (nI gi)), (2, .int (nI d))] := hl
  have sk1 := sk_le (t := t) hp
  have sk2 := sk_ge t n p
  have rOK : S.1 ≤ rSz (grpR FR t n p S) ∧ rSz (grpR FR t n p S) ≤ 128 := grpR_ok hFo p S hs8
  have kk0 : z_K (fun y => y = 6 ∨ y = r ∨ y = r + 1) h h := z_K.rf
  refine lv_aload_n hx hb d_SchemaReader_readGroup_0 rfl (lv_at hl 0 rfl) ?_
  refine z_get hx hb hts (z_lay i_SchemaReader) hown hK hw hrd rfl 0 (by decide) (z_in k_220 rfl) (fun _ h9 => h9) rfl d_SchemaReader_readGroup_1 ?_
  refine lv_bipush (v := 123) hx hb d_SchemaReader_readGroup_4 (by decide) ?_
  refine z_callV (n := 1) (As := [.int 123]) (rest := []) ⟨hx, hb, hml, hown, hts⟩ (c_Scanner_takeSign (t := t) l g h hsc hb0 hn hlen hf (by omega)) (z_in k_456 rfl) (z_in k_8 rfl) (z_in k_453 rfl) (z_in k_454 rfl) (z_in k_455 rfl) (by decide +kernel) ⟨by first | exact Nat.le_of_ble_eq_true rfl | (dsimp only; omega) | omega, by first | exact Nat.le_of_ble_eq_true rfl | (dsimp only; omega) | omega⟩ hK hE hw hA rfl hsc rfl hl.1 (Nat.le_of_ble_eq_true rfl) d_SchemaReader_readGroup_6 ⟨by first | exact Nat.le_of_ble_eq_true rfl | (dsimp only; omega) | omega, by first | exact Nat.le_of_ble_eq_true rfl | (dsimp only; omega) | omega⟩ rfl (fun r9 h9 H locs hp hw => ?_)
  unfold tSg at hp
  by_cases ts1 : bt t n (sk t n p) = 123
  · -- ts1 True
    rw [if_pos ts1] at hp
    obtain ⟨r8, hh1⟩ := hp
    subst r8
    obtain ⟨h1, e8⟩ : ∃ x9, x9 = h9 := ⟨_, rfl⟩
    subst e8
    have f1_rd : h1 rd = some ((7, 0), .inr (8, [.ref sc, .ref q])) := by rw [← hh1]; exact z_keep hsc hrd (z_t1 (by decide))
    have f1_sc : h1 sc = some ((6, 0), .inr (7, [.ref b, .int (nI n), .int (nI (sk t n p + 1)), .int fa, .int ws, .int wd])) := by rw [← hh1]; exact z_put_eq
    have f1_b : h1 b = some ((3, 0), .inl (g.2.1 0, len, .inl f)) := by rw [← hh1]; exact z_keep hsc hb0 (z_t1 (by decide))
    have kk1 : z_K (fun y => y = 6 ∨ y = r ∨ y = r + 1) h h1 := kk0.tr (by rw [← hh1]; exact z_K.put hsc (by first | decide | simp | omega))
    refine W.eq (g2 := F0 m 9 ls [.int 1]) rfl ?_
    refine lv_if_ne (tgt := 14) hx hb d_SchemaReader_readGroup_9 (by decide) (fun c_9 => ?_) (fun c_9 => ?_)
    · -- 9: True
      refine lv_iconst (v := 0) hx hb d_SchemaReader_readGroup_14 (by decide) ?_
      refine lv_istore_n (lv' := [(3, .int 0), (0, .ref rd), (1, .int (nI gi)), (2, .int (nI d))]) hx hb d_SchemaReader_readGroup_15 rfl hl (by decide) rfl (fun ls hl => ?_)
      have loop_16 : ∀ (fuel : Nat) (k1 : Nat) (p1 : Nat) (S1 : Sch) (fa1 : Int32) (ws1 : Int32) (wd1 : Int32) (hL : z_H) (H : Heap) (locs : List Loc) (ls : Array Slot) (L16_rd : hL rd = some ((7, 0), .inr (8, [.ref sc, .ref q]))) (L16_sc : hL sc = some ((6, 0), .inr (7, [.ref b, .int (nI n), .int (nI p1), .int fa1, .int ws1, .int wd1]))) (L16_b : hL b = some ((3, 0), .inl (g.2.1 0, len, .inl f))) (kkL : z_K (fun y => y = 6 ∨ y = r ∨ y = r + 1) h hL) (sA1 : SchAt g hL r q S1) (gO1 : grOK S1) (le1 : p1 ≤ n ∧ S.1 ≤ S1.1 ∧ S1.1 ≤ 128 ∧ k1 ≤ 129 ∧ S1.1 ≤ rSz (grpR FR t n p S)) (hR1 : grpL FR t n (129 - k1) (decide (k1 = 0)) p1 S1 = grpL FR t n 129 true (sk t n p + 1) S), (129 - k1) < fuel → z_S g A s.heap hL H locs → lv_has ls 4 [(0, .ref rd), (1, .int (nI gi)), (2, .int (nI d)), (3, .int (nI k1))] → W pg l en { frames := fF + 4, cells := 2 * (rSz (grpR FR t n p S) - S.1), slots := 25 * (rSz (grpR FR t n p S) - S.1), locals := lF + 100 } s m [.ref rd, .int (nI gi), .int (nI d)].toArray below meth cd H locs (2 * (S1.1 - S.1)) (25 * (S1.1 - S.1)) (MQ below (z_Q g A (rdP g (grpR FR t n p S) h r q sc b n)) [.ref rd, .int (nI gi), .int (nI d)].toArray s (2 * (rSz (grpR FR t n p S) - S.1)) (25 * (rSz (grpR FR t n p S) - S.1)) A) (F0 m 16 ls []) := by
        intro fuel
        induction fuel with
        | zero => intro k1 p1 S1 fa1 ws1 wd1 hL H locs ls L16_rd L16_sc L16_b kkL sA1 gO1 le1 hR1 hm; exact absurd hm (Nat.not_lt_zero _)
        | succ fuel ih_16 =>
          intro k1 p1 S1 fa1 ws1 wd1 hL H locs ls L16_rd L16_sc L16_b kkL sA1 gO1 le1 hR1 hm hw hl
          refine lv_iload_n hx hb d_SchemaReader_readGroup_16 rfl (lv_at hl 3 rfl) ?_
          refine lv_sipush (v := 128) hx hb d_SchemaReader_readGroup_17 (by decide) ?_
          refine lv_icmp_gt (tgt := 66) hx hb d_SchemaReader_readGroup_20 (by decide) (fun c_20 => ?_) (fun c_20 => ?_)
          · -- 20: True
            have c_20 : 128 < k1 := (nI_ltI (a := 128) (b := k1) (by omega) (by omega)).mp c_20
            refine lv_aload_n hx hb d_SchemaReader_readGroup_66 rfl (lv_at hl 0 rfl) ?_
            refine z_get hx hb hts (z_lay i_SchemaReader) hown hK hw L16_rd rfl 0 (by decide) (z_in k_220 rfl) (fun _ h9 => h9) rfl d_SchemaReader_readGroup_67 ?_
            refine z_callV (n := 0) (As := []) (rest := []) ⟨hx, hb, hml, hown, hts⟩ (c_Scanner_failHere l g hL L16_sc) (z_in k_258 rfl) (z_in k_8 rfl) (z_in k_457 rfl) (z_in k_256 rfl) (z_in k_257 rfl) (by decide +kernel) ⟨by first | exact Nat.le_of_ble_eq_true rfl | (dsimp only; omega) | omega, by first | exact Nat.le_of_ble_eq_true rfl | (dsimp only; omega) | omega⟩ hK hE hw hA rfl L16_sc rfl hl.1 (Nat.le_of_ble_eq_true rfl) d_SchemaReader_readGroup_70 ⟨by first | exact Nat.le_of_ble_eq_true rfl | (dsimp only; omega) | omega, by first | exact Nat.le_of_ble_eq_true rfl | (dsimp only; omega) | omega⟩ rfl (fun r9 h9 H locs hp hw => ?_)
            obtain ⟨r8, hh2⟩ := hp
            subst r8
            obtain ⟨h2, e8⟩ : ∃ x9, x9 = h9 := ⟨_, rfl⟩
            subst e8
            have f2_rd : h2 rd = some ((7, 0), .inr (8, [.ref sc, .ref q])) := by rw [← hh2]; exact z_keep L16_sc L16_rd (z_t1 (by decide))
            have f2_sc : h2 sc = some ((6, 0), .inr (7, [.ref b, .int (nI n), .int (nI p1), .int (nI p1), .int ws1, .int wd1])) := by rw [← hh2]; exact z_put_eq
            have f2_b : h2 b = some ((3, 0), .inl (g.2.1 0, len, .inl f)) := by rw [← hh2]; exact z_keep L16_sc L16_b (z_t1 (by decide))
            have kk2 : z_K (fun y => y = 6 ∨ y = r ∨ y = r + 1) h h2 := kkL.tr (by rw [← hh2]; exact z_K.put L16_sc (by first | decide | simp | omega))
            refine W.eq (g2 := F0 m 73 ls [.int 0]) rfl ?_
            have eW : grpR FR t n p S = .inl (p1, S1.1) := by
              unfold grpR; rw [if_pos ts1, ← hR1]
              rw [show 129 - k1 = 0 by omega]; rfl
            have eZ : rSz (grpR FR t n p S) = S1.1 := by rw [eW]; rfl
            exact z_zret hx hb hr rfl hlocks hw (by rw [eW]; exact ⟨kk2, rfl, _, _, _, _, f2_sc, rfl⟩) (by first | exact Nat.le_of_ble_eq_true rfl | (dsimp only; omega) | omega) (by first | exact Nat.le_of_ble_eq_true rfl | (dsimp only; omega) | omega) d_SchemaReader_readGroup_73
          · -- 20: False
            have c_20 : ¬ (128 < k1) := fun z => c_20 ((nI_ltI (a := 128) (b := k1) (by omega) (by omega)).mpr z)
            refine lv_iload_n hx hb d_SchemaReader_readGroup_23 rfl (lv_at hl 3 rfl) ?_
            refine lv_if_le (tgt := 49) hx hb d_SchemaReader_readGroup_24 (by decide) (fun c_24 => ?_) (fun c_24 => ?_)
            · -- 24: True
              have c_24 : k1 ≤ 0 := (nI_leI (a := k1) (b := 0) (by omega) (by omega)).mp c_24
              have hM8 : rSz (FR p1 S1) ≤ rSz (grpR FR t n p S) := by
                unfold grpR; rw [if_pos ts1, ← hR1, show 129 - k1 = (129 - (k1 + 1)) + 1 by omega]
                rw [decide_eq_true (show k1 = 0 by omega)]; exact grpL_mid (first := true) hFo (by omega) (by simp)
              have ok8 : S1.1 ≤ rSz (FR p1 S1) ∧ rSz (FR p1 S1) ≤ 128 := hFo p1 S1 (by omega)
              refine lv_aload_n hx hb d_SchemaReader_readGroup_49 rfl (lv_at hl 0 rfl) ?_
              refine lv_iload_n hx hb d_SchemaReader_readGroup_50 rfl (lv_at hl 1 rfl) ?_
              refine lv_iload_n hx hb d_SchemaReader_readGroup_51 rfl (lv_at hl 2 rfl) ?_
              refine z_callV (n := 2) (As := [.int (nI gi), .int (nI d)]) (rest := []) ⟨hx, hb, hml, hown, hts⟩ (hF hL p1 S1 _ _ _ L16_rd L16_sc L16_b (by omega) (sA1.k (R := fun y => y = 6) (z_K.rf) (by omega) (by omega) (by omega)) gO1 (by omega) (by omega)) (z_in k_242 rfl) (z_in k_9 rfl) (z_in k_239 rfl) (z_in k_241 rfl) (z_in ks_0 rfl) (by decide +kernel) ⟨by first | exact Nat.le_of_ble_eq_true rfl | (dsimp only; omega) | omega, by first | exact Nat.le_of_ble_eq_true rfl | (dsimp only; omega) | omega⟩ hK hE hw hA rfl L16_rd rfl hl.1 (Nat.le_of_ble_eq_true rfl) d_SchemaReader_readGroup_52 ⟨by first | exact Nat.le_of_ble_eq_true rfl | (dsimp only; omega) | omega, by first | exact Nat.le_of_ble_eq_true rfl | (dsimp only; omega) | omega⟩ rfl (fun r9 h9 H locs hp hw => ?_)
              obtain ⟨kk8, hp⟩ := hp
              rcases hR8 : FR p1 S1 with ⟨F8, m8⟩ | ⟨p8, S8⟩
              · -- read False
                rw [hR8] at hp
                have hz8 : rSz (FR p1 S1) = m8 := by rw [hR8]; rfl
                have hz7 : rSz (.inl (F8, m8) : Res) = m8 := rfl
                obtain ⟨r8, pf8, f8, w8, d8, e8, g8⟩ := hp
                subst r8
                obtain ⟨h3, e7⟩ : ∃ x9, x9 = h9 := ⟨_, rfl⟩
                subst e7
                have g3_rd : h3 rd = some ((7, 0), .inr (8, [.ref sc, .ref q])) := kk8 _ _ _ L16_rd (by simp; try omega)
                have g3_b : h3 b = some ((3, 0), .inl (g.2.1 0, len, .inl f)) := kk8 _ _ _ L16_b (by simp; try omega)
                have kk3 : z_K (fun y => y = 6 ∨ y = r ∨ y = r + 1) h h3 := kkL.tr kk8
                refine W.eq (g2 := F0 m 55 ls [.int 0]) rfl ?_
                refine lv_if_ne (tgt := 60) hx hb d_SchemaReader_readGroup_55 (by decide) (fun c_55 => ?_) (fun c_55 => ?_)
                · -- 55: True
                  exact absurd (by decide) c_55
                · -- 55: False
                  refine lv_iconst (v := 0) hx hb d_SchemaReader_readGroup_58 (by decide) ?_
                  have eW : grpR FR t n p S = .inl (F8, m8) := by
                    unfold grpR; rw [if_pos ts1, ← hR1]
                    rw [show 129 - k1 = (129 - (k1 + 1)) + 1 by omega]; simp only [grpL]; rw [decide_eq_true (show k1 = 0 by omega), if_neg (by simp), if_pos rfl, hR8]
                  have eZ : rSz (grpR FR t n p S) = m8 := by rw [eW]; rfl
                  exact z_zret hx hb hr rfl hlocks hw (by rw [eW]; exact ⟨kk3, rfl, _, _, _, _, e8, g8⟩) (by first | exact Nat.le_of_ble_eq_true rfl | (dsimp only; omega) | omega) (by first | exact Nat.le_of_ble_eq_true rfl | (dsimp only; omega) | omega) d_SchemaReader_readGroup_59
              · -- read True
                rw [hR8] at hp
                have hz8 : rSz (FR p1 S1) = S8.1 := by rw [hR8]; rfl
                have hz7 : rSz (.inr (p8, S8) : Res) = S8.1 := rfl
                obtain ⟨r8, ⟨f8, w8, d8, e8⟩, le8, sA8, gO8⟩ := hp
                subst r8
                obtain ⟨h4, e7⟩ : ∃ x9, x9 = h9 := ⟨_, rfl⟩
                subst e7
                have g4_rd : h4 rd = some ((7, 0), .inr (8, [.ref sc, .ref q])) := kk8 _ _ _ L16_rd (by simp; try omega)
                have g4_b : h4 b = some ((3, 0), .inl (g.2.1 0, len, .inl f)) := kk8 _ _ _ L16_b (by simp; try omega)
                have kk4 : z_K (fun y => y = 6 ∨ y = r ∨ y = r + 1) h h4 := kkL.tr kk8
                refine W.eq (g2 := F0 m 55 ls [.int 1]) rfl ?_
                refine lv_if_ne (tgt := 60) hx hb d_SchemaReader_readGroup_55 (by decide) (fun c_55 => ?_) (fun c_55 => ?_)
                · -- 55: True
                  refine lv_iinc (v := nI (k1 + 1)) (lv' := [(3, .int (nI (k1 + 1))), (0, .ref rd), (1, .int (nI gi)), (2, .int (nI d))]) hx hb d_SchemaReader_readGroup_60 hl (k := 3) rfl (nI_1 k1) (by decide) rfl (fun ls hl => ?_)
                  refine lv_goto (tgt := 16) hx hb d_SchemaReader_readGroup_63 (by decide) ?_
                  refine W.widen (k := 2 * (S8.1 - S.1)) (n := 25 * (S8.1 - S.1)) (by first | exact Nat.le_of_ble_eq_true rfl | (dsimp only; omega) | omega) (by first | exact Nat.le_of_ble_eq_true rfl | (dsimp only; omega) | omega) ?_
                  refine ih_16 (k1 + 1) p8 S8 f8 w8 d8 h4 _ _ _ g4_rd e8 g4_b kk4 sA8 gO8 (⟨le8, by omega, by omega, by omega, by omega⟩) (by rw [← hR1, show 129 - k1 = (129 - (k1 + 1)) + 1 by omega]; simp only [grpL]; rw [decide_eq_true (show k1 = 0 by omega), if_neg (by simp), if_pos rfl, hR8]; simp) ?_ hw (lv_sub hl [1, 2, 3, 0] rfl)
                  omega
                · -- 55: False
                  exact absurd c_55 (by decide)
            · -- 24: False
              have c_24 : ¬ (k1 ≤ 0) := fun z => c_24 ((nI_leI (a := k1) (b := 0) (by omega) (by omega)).mpr z)
              have sk3 := sk_le (t := t) le1.1
              have sk4 := sk_ge t n p1
              refine lv_aload_n hx hb d_SchemaReader_readGroup_27 rfl (lv_at hl 0 rfl) ?_
              refine z_get hx hb hts (z_lay i_SchemaReader) hown hK hw L16_rd rfl 0 (by decide) (z_in k_220 rfl) (fun _ h9 => h9) rfl d_SchemaReader_readGroup_28 ?_
              refine z_callV (n := 0) (As := []) (rest := []) ⟨hx, hb, hml, hown, hts⟩ (c_Scanner_next l g hL L16_sc L16_b hn hlen hf (by omega)) (z_in k_234 rfl) (z_in k_8 rfl) (z_in k_231 rfl) (z_in k_232 rfl) (z_in k_233 rfl) (by decide +kernel) ⟨by first | exact Nat.le_of_ble_eq_true rfl | (dsimp only; omega) | omega, by first | exact Nat.le_of_ble_eq_true rfl | (dsimp only; omega) | omega⟩ hK hE hw hA rfl L16_sc rfl hl.1 (Nat.le_of_ble_eq_true rfl) d_SchemaReader_readGroup_31 ⟨by first | exact Nat.le_of_ble_eq_true rfl | (dsimp only; omega) | omega, by first | exact Nat.le_of_ble_eq_true rfl | (dsimp only; omega) | omega⟩ rfl (fun r9 h9 H locs hp hw => ?_)
              obtain ⟨r8, hh5⟩ := hp
              subst r8
              obtain ⟨h5, e8⟩ : ∃ x9, x9 = h9 := ⟨_, rfl⟩
              subst e8
              have f5_rd : h5 rd = some ((7, 0), .inr (8, [.ref sc, .ref q])) := by rw [← hh5]; exact z_keep L16_sc L16_rd (z_t1 (by decide))
              have f5_sc : h5 sc = some ((6, 0), .inr (7, [.ref b, .int (nI n), .int (nI (sk t n p1)), .int fa1, .int ws1, .int wd1])) := by rw [← hh5]; exact z_put_eq
              have f5_b : h5 b = some ((3, 0), .inl (g.2.1 0, len, .inl f)) := by rw [← hh5]; exact z_keep L16_sc L16_b (z_t1 (by decide))
              have kk5 : z_K (fun y => y = 6 ∨ y = r ∨ y = r + 1) h h5 := kkL.tr (by rw [← hh5]; exact z_K.put L16_sc (by first | decide | simp | omega))
              refine W.eq (g2 := F0 m 34 ls [.int (bt t n (sk t n p1))]) rfl ?_
              refine lv_bipush (v := 125) hx hb d_SchemaReader_readGroup_34 (by decide) ?_
              refine lv_icmp_ne (tgt := 49) hx hb d_SchemaReader_readGroup_36 (by decide) (fun c_36 => ?_) (fun c_36 => ?_)
              · -- 36: True
                have hM8 : rSz (FR (sk t n p1) S1) ≤ rSz (grpR FR t n p S) := by
                  unfold grpR; rw [if_pos ts1, ← hR1, show 129 - k1 = (129 - (k1 + 1)) + 1 by omega]
                  rw [decide_eq_false (show ¬ k1 = 0 by omega)]; exact grpL_mid (first := false) hFo (by omega) (fun z => c_36 z.2)
                have ok8 : S1.1 ≤ rSz (FR (sk t n p1) S1) ∧ rSz (FR (sk t n p1) S1) ≤ 128 := hFo (sk t n p1) S1 (by omega)
                refine lv_aload_n hx hb d_SchemaReader_readGroup_49 rfl (lv_at hl 0 rfl) ?_
                refine lv_iload_n hx hb d_SchemaReader_readGroup_50 rfl (lv_at hl 1 rfl) ?_
                refine lv_iload_n hx hb d_SchemaReader_readGroup_51 rfl (lv_at hl 2 rfl) ?_
                refine z_callV (n := 2) (As := [.int (nI gi), .int (nI d)]) (rest := []) ⟨hx, hb, hml, hown, hts⟩ (hF h5 (sk t n p1) S1 _ _ _ f5_rd f5_sc f5_b (by omega) (sA1.k (R := fun y => y = 6) (by rw [← hh5]; exact z_K.put L16_sc rfl) (by omega) (by omega) (by omega)) gO1 (by omega) (by omega)) (z_in k_242 rfl) (z_in k_9 rfl) (z_in k_239 rfl) (z_in k_241 rfl) (z_in ks_0 rfl) (by decide +kernel) ⟨by first | exact Nat.le_of_ble_eq_true rfl | (dsimp only; omega) | omega, by first | exact Nat.le_of_ble_eq_true rfl | (dsimp only; omega) | omega⟩ hK hE hw hA rfl f5_rd rfl hl.1 (Nat.le_of_ble_eq_true rfl) d_SchemaReader_readGroup_52 ⟨by first | exact Nat.le_of_ble_eq_true rfl | (dsimp only; omega) | omega, by first | exact Nat.le_of_ble_eq_true rfl | (dsimp only; omega) | omega⟩ rfl (fun r9 h9 H locs hp hw => ?_)
                obtain ⟨kk8, hp⟩ := hp
                rcases hR8 : FR (sk t n p1) S1 with ⟨F8, m8⟩ | ⟨p8, S8⟩
                · -- read False
                  rw [hR8] at hp
                  have hz8 : rSz (FR (sk t n p1) S1) = m8 := by rw [hR8]; rfl
                  have hz7 : rSz (.inl (F8, m8) : Res) = m8 := rfl
                  obtain ⟨r8, pf8, f8, w8, d8, e8, g8⟩ := hp
                  subst r8
                  obtain ⟨h6, e7⟩ : ∃ x9, x9 = h9 := ⟨_, rfl⟩
                  subst e7
                  have g6_rd : h6 rd = some ((7, 0), .inr (8, [.ref sc, .ref q])) := kk8 _ _ _ f5_rd (by simp; try omega)
                  have g6_b : h6 b = some ((3, 0), .inl (g.2.1 0, len, .inl f)) := kk8 _ _ _ f5_b (by simp; try omega)
                  have kk6 : z_K (fun y => y = 6 ∨ y = r ∨ y = r + 1) h h6 := kk5.tr kk8
                  refine W.eq (g2 := F0 m 55 ls [.int 0]) rfl ?_
                  refine lv_if_ne (tgt := 60) hx hb d_SchemaReader_readGroup_55 (by decide) (fun c_55 => ?_) (fun c_55 => ?_)
                  · -- 55: True
                    exact absurd (by decide) c_55
                  · -- 55: False
                    refine lv_iconst (v := 0) hx hb d_SchemaReader_readGroup_58 (by decide) ?_
                    have eW : grpR FR t n p S = .inl (F8, m8) := by
                      unfold grpR; rw [if_pos ts1, ← hR1]
                      rw [show 129 - k1 = (129 - (k1 + 1)) + 1 by omega]; simp only [grpL]; rw [decide_eq_false (show ¬ k1 = 0 by omega), if_neg (fun z => c_36 z.2), if_neg (by decide), hR8]
                    have eZ : rSz (grpR FR t n p S) = m8 := by rw [eW]; rfl
                    exact z_zret hx hb hr rfl hlocks hw (by rw [eW]; exact ⟨kk6, rfl, _, _, _, _, e8, g8⟩) (by first | exact Nat.le_of_ble_eq_true rfl | (dsimp only; omega) | omega) (by first | exact Nat.le_of_ble_eq_true rfl | (dsimp only; omega) | omega) d_SchemaReader_readGroup_59
                · -- read True
                  rw [hR8] at hp
                  have hz8 : rSz (FR (sk t n p1) S1) = S8.1 := by rw [hR8]; rfl
                  have hz7 : rSz (.inr (p8, S8) : Res) = S8.1 := rfl
                  obtain ⟨r8, ⟨f8, w8, d8, e8⟩, le8, sA8, gO8⟩ := hp
                  subst r8
                  obtain ⟨h7, e7⟩ : ∃ x9, x9 = h9 := ⟨_, rfl⟩
                  subst e7
                  have g7_rd : h7 rd = some ((7, 0), .inr (8, [.ref sc, .ref q])) := kk8 _ _ _ f5_rd (by simp; try omega)
                  have g7_b : h7 b = some ((3, 0), .inl (g.2.1 0, len, .inl f)) := kk8 _ _ _ f5_b (by simp; try omega)
                  have kk7 : z_K (fun y => y = 6 ∨ y = r ∨ y = r + 1) h h7 := kk5.tr kk8
                  refine W.eq (g2 := F0 m 55 ls [.int 1]) rfl ?_
                  refine lv_if_ne (tgt := 60) hx hb d_SchemaReader_readGroup_55 (by decide) (fun c_55 => ?_) (fun c_55 => ?_)
                  · -- 55: True
                    refine lv_iinc (v := nI (k1 + 1)) (lv' := [(3, .int (nI (k1 + 1))), (0, .ref rd), (1, .int (nI gi)), (2, .int (nI d))]) hx hb d_SchemaReader_readGroup_60 hl (k := 3) rfl (nI_1 k1) (by decide) rfl (fun ls hl => ?_)
                    refine lv_goto (tgt := 16) hx hb d_SchemaReader_readGroup_63 (by decide) ?_
                    refine W.widen (k := 2 * (S8.1 - S.1)) (n := 25 * (S8.1 - S.1)) (by first | exact Nat.le_of_ble_eq_true rfl | (dsimp only; omega) | omega) (by first | exact Nat.le_of_ble_eq_true rfl | (dsimp only; omega) | omega) ?_
                    refine ih_16 (k1 + 1) p8 S8 f8 w8 d8 h7 _ _ _ g7_rd e8 g7_b kk7 sA8 gO8 (⟨le8, by omega, by omega, by omega, by omega⟩) (by rw [← hR1, show 129 - k1 = (129 - (k1 + 1)) + 1 by omega]; simp only [grpL]; rw [decide_eq_false (show ¬ k1 = 0 by omega), if_neg (fun z => c_36 z.2), if_neg (by decide), hR8]; simp) ?_ hw (lv_sub hl [1, 2, 3, 0] rfl)
                    omega
                  · -- 55: False
                    exact absurd c_55 (by decide)
              · -- 36: False
                refine lv_aload_n hx hb d_SchemaReader_readGroup_39 rfl (lv_at hl 0 rfl) ?_
                refine z_get hx hb hts (z_lay i_SchemaReader) hown hK hw f5_rd rfl 0 (by decide) (z_in k_220 rfl) (fun _ h9 => h9) rfl d_SchemaReader_readGroup_40 ?_
                refine lv_bipush (v := 125) hx hb d_SchemaReader_readGroup_43 (by decide) ?_
                refine z_callV (n := 1) (As := [.int 125]) (rest := []) ⟨hx, hb, hml, hown, hts⟩ (c_Scanner_takeSign (t := t) l g h5 f5_sc f5_b hn hlen hf (by omega)) (z_in k_456 rfl) (z_in k_8 rfl) (z_in k_453 rfl) (z_in k_454 rfl) (z_in k_455 rfl) (by decide +kernel) ⟨by first | exact Nat.le_of_ble_eq_true rfl | (dsimp only; omega) | omega, by first | exact Nat.le_of_ble_eq_true rfl | (dsimp only; omega) | omega⟩ hK hE hw hA rfl f5_sc rfl hl.1 (Nat.le_of_ble_eq_true rfl) d_SchemaReader_readGroup_45 ⟨by first | exact Nat.le_of_ble_eq_true rfl | (dsimp only; omega) | omega, by first | exact Nat.le_of_ble_eq_true rfl | (dsimp only; omega) | omega⟩ rfl (fun r9 h9 H locs hp hw => ?_)
                unfold tSg at hp
                rw [sk_sk, if_pos c_36] at hp
                obtain ⟨r8, hh8⟩ := hp
                subst r8
                obtain ⟨h8, e8⟩ : ∃ x9, x9 = h9 := ⟨_, rfl⟩
                subst e8
                have f8_rd : h8 rd = some ((7, 0), .inr (8, [.ref sc, .ref q])) := by rw [← hh8]; exact z_keep f5_sc f5_rd (z_t1 (by decide))
                have f8_sc : h8 sc = some ((6, 0), .inr (7, [.ref b, .int (nI n), .int (nI (sk t n p1 + 1)), .int fa1, .int ws1, .int wd1])) := by rw [← hh8]; exact z_put_eq
                have f8_b : h8 b = some ((3, 0), .inl (g.2.1 0, len, .inl f)) := by rw [← hh8]; exact z_keep f5_sc f5_b (z_t1 (by decide))
                have kk8 : z_K (fun y => y = 6 ∨ y = r ∨ y = r + 1) h h8 := kk5.tr (by rw [← hh8]; exact z_K.put f5_sc (by first | decide | simp | omega))
                refine W.eq (g2 := F0 m 48 ls [.int 1]) rfl ?_
                have eW : grpR FR t n p S = .inr (sk t n p1 + 1, S1) := by
                  unfold grpR; rw [if_pos ts1, ← hR1]
                  rw [show 129 - k1 = (129 - (k1 + 1)) + 1 by omega]; simp only [grpL]; rw [decide_eq_false (show ¬ k1 = 0 by omega), if_pos ⟨rfl, c_36⟩]
                have eZ : rSz (grpR FR t n p S) = S1.1 := by rw [eW]; rfl
                have z8 := bt_lt c_36
                exact z_zret hx hb hr rfl hlocks hw (by rw [eW]; exact ⟨kk8, rfl, ⟨_, _, _, f8_sc⟩, by omega, sA1.k (R := fun y => y = 6) ((by rw [← hh5]; exact z_K.put L16_sc rfl : z_K (fun y => y = 6) hL h5).tr (by rw [← hh8]; exact z_K.put f5_sc rfl)) (by omega) (by omega) (by omega), gO1⟩) (by first | exact Nat.le_of_ble_eq_true rfl | (dsimp only; omega) | omega) (by first | exact Nat.le_of_ble_eq_true rfl | (dsimp only; omega) | omega) d_SchemaReader_readGroup_48
      refine W.widen (k := 2 * (S.1 - S.1)) (n := 25 * (S.1 - S.1)) (by first | exact Nat.le_of_ble_eq_true rfl | (dsimp only; omega) | omega) (by first | exact Nat.le_of_ble_eq_true rfl | (dsimp only; omega) | omega) ?_
      exact loop_16 (129 - 0 + 1) 0 (sk t n p + 1) S fa ws wd h1 _ _ _ f1_rd f1_sc f1_b kk1 (hA9.k (R := fun y => y = 6) (by rw [← hh1]; exact z_K.put hsc rfl) (by omega) (by omega) (by omega)) hg (⟨by have z := bt_lt ts1; omega, by omega, by omega, by omega, rOK.1⟩) rfl (by omega) hw (lv_sub hl [1, 2, 3, 0] rfl)
    · -- 9: False
      exact absurd c_9 (by decide)
  · -- ts1 False
    rw [if_neg ts1] at hp
    obtain ⟨r8, hh9⟩ := hp
    subst r8
    obtain ⟨h9, e8⟩ : ∃ x9, x9 = h9 := ⟨_, rfl⟩
    subst e8
    have f9_rd : h9 rd = some ((7, 0), .inr (8, [.ref sc, .ref q])) := by rw [← hh9]; exact z_keep hsc hrd (z_t1 (by decide))
    have f9_sc : h9 sc = some ((6, 0), .inr (7, [.ref b, .int (nI n), .int (nI (sk t n p)), .int (nI (sk t n p)), .int ws, .int wd])) := by rw [← hh9]; exact z_put_eq
    have f9_b : h9 b = some ((3, 0), .inl (g.2.1 0, len, .inl f)) := by rw [← hh9]; exact z_keep hsc hb0 (z_t1 (by decide))
    have kk9 : z_K (fun y => y = 6 ∨ y = r ∨ y = r + 1) h h9 := kk0.tr (by rw [← hh9]; exact z_K.put hsc (by first | decide | simp | omega))
    refine W.eq (g2 := F0 m 9 ls [.int 0]) rfl ?_
    refine lv_if_ne (tgt := 14) hx hb d_SchemaReader_readGroup_9 (by decide) (fun c_9 => ?_) (fun c_9 => ?_)
    · -- 9: True
      exact absurd (by decide) c_9
    · -- 9: False
      refine lv_iconst (v := 0) hx hb d_SchemaReader_readGroup_12 (by decide) ?_
      have eZ : rSz (grpR FR t n p S) = S.1 := by unfold grpR; rw [if_neg ts1]; rfl
      exact z_zret hx hb hr rfl hlocks hw (by have e9 : grpR FR t n p S = .inl (sk t n p, S.1) := if_neg ts1; rw [e9]; exact ⟨kk9, rfl, _, _, _, _, f9_sc, rfl⟩) (by first | exact Nat.le_of_ble_eq_true rfl | (dsimp only; omega) | omega) (by first | exact Nat.le_of_ble_eq_true rfl | (dsimp only; omega) | omega) d_SchemaReader_readGroup_13

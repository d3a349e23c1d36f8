theorem pick_ok {t : Nat → Nat} {q e : Nat} {x : Int32 × Nat} : ∀ (is : List Nat) (j : Nat), pick t q e is j = .inr x → (∃ k, k < j + is.length ∧ x.1 = nI k) ∧ x.2 = e := by
  intro is
  induction is with
  | nil => intro j h; cases h
  | cons i l ih =>
    intro j h
    simp only [pick] at h
    split at h
    · cases h
      exact ⟨⟨j, by simp, rfl⟩, rfl⟩
    · obtain ⟨⟨k, hk, e1⟩, e2⟩ := ih (j + 1) h
      exact ⟨⟨k, by simp only [List.length_cons]; omega, e1⟩, e2⟩
theorem rdW_ok {t : Nat → Nat} {n p : Nat} {is : List Nat} {x : Int32 × Nat} (hp : p ≤ n) (h : rdW t n p is = .inr x) : (∃ k, k < is.length ∧ x.1 = nI k) ∧ x.2 ≤ n ∧ p ≤ x.2 := by
  unfold rdW at h
  split at h
  · obtain ⟨⟨k, hk, e1⟩, e2⟩ := pick_ok is 0 h
    refine ⟨⟨k, by omega, e1⟩, ?_⟩
    have h1 := we_le (t := t) (sk_le (t := t) hp)
    have h2 := we_ge t n (sk t n p)
    have h3 := sk_ge t n p
    rw [e2]
    omega
  · cases h
theorem nI_ne1 {k : Nat} (h : k < 2 ^ 31) : ¬ nI k = (-1 : Int32) := fun z => by
  have := congrArg Int32.toInt z
  rw [nI_toInt h] at this
  have h2 : (-1 : Int32).toInt = -1 := rfl
  omega
theorem nmSt_ok {S : Sch} {t : Nat → Nat} {gr ty : Int32} {d a e : Nat} (h : nmSt S t gr ty d a e = true) : e - a ≤ 16 ∧ S.1 < 128 ∧ (ty = 4 ∨ cc S < 64) ∧ (ty = 4 → d < 16) := by
  unfold nmSt at h
  simp at h
  obtain ⟨⟨⟨h1, h2, h3⟩, h4⟩, -⟩ := h
  exact ⟨by omega, h2, h3, fun z => by rcases h4 with z2 | z2; exact absurd z z2; exact z2⟩
/-- the bytes of a word are letters, digits, _ -/
theorem weR_wd (t : Nat → Nat) : ∀ r p k, p ≤ k → k < weR t r p → wdN (t k) = true := by
  intro r
  induction r with
  | zero => intro p k h1 h2; simp only [weR] at h2; omega
  | succ r ih =>
    intro p k h1 h2
    simp only [weR] at h2
    split at h2
    · rename_i hw
      by_cases e : k = p
      · rw [e]; exact hw
      · exact ih (p + 1) k (by omega) h2
    · omega
theorem wdN_lt {b : Nat} (h : wdN b = true) : b < 128 := by
  unfold wdN letN digN at h
  simp at h
  omega

set_option maxHeartbeats 4000000 in
set_option maxRecDepth 100000 in
theorem c_readField_of_top (l : Launch) (g : z_G) (h : z_H) {r q : Nat} {S : Sch} {rd sc b len n p d fG lG : Nat} {f : Nat → Int32} {fa ws wd : Int32} {t : Nat → Nat} {GR : Nat → Sch → Nat → Res} (hrd : h rd = some ((7, 0), .inr (8, [.ref sc, .ref q]))) (hsc : h sc = some ((6, 0), .inr (7, [.ref b, .int (nI n), .int (nI p), .int fa, .int ws, .int wd]))) (hb0 : h b = some ((3, 0), .inl (g.2.1 0, len, .inl f))) (hn : n ≤ len) (hlen : len < 2 ^ 31) (hf : ∀ k, k < n → t k < 256 ∧ f k = sb_b (t k)) (hp : p ≤ n) (hl29 : len < 2 ^ 29) (hl16 : 16 < len) (hfb : z_fb f len) (hr0 : 100 ≤ r) (hA9 : SchAt g h r q S) (hg : grOK S) (hs8 : S.1 ≤ 128) (hd9 : d < 1000) (hG : d < 16 → ∀ (h : z_H) (p : Nat) (S : Sch) (gi : Nat) (fa ws wd : Int32), h rd = some ((7, 0), .inr (8, [.ref sc, .ref q])) → h sc = some ((6, 0), scE b n p fa ws wd) → h b = some ((3, 0), .inl (g.2.1 0, len, .inl f)) → p ≤ n → SchAt g h r q S → grOK S → gi < S.1 → S.1 ≤ 128 → z_C l y_SchemaReader_readGroup prog_10_method_4_code 4 (Option.some Jvm.ClassFile.FieldType.boolean) fG lG (2 * (rSz (GR p S gi) - S.1)) (25 * (rSz (GR p S gi) - S.1)) g [.ref rd, .int (nI gi), .int (nI (d + 1))] h (rdP g (GR p S gi) h r q sc b n)) (hGo : ∀ p S gi, S.1 ≤ 128 → resOK S (GR p S gi)) : z_C l y_SchemaReader_readField prog_10_method_3_code 6 (Option.some Jvm.ClassFile.FieldType.boolean) (fG + 8) (lG + 250) (2 * (rSz (fieldR GR t n p S (-1) d) - S.1)) (25 * (rSz (fieldR GR t n p S (-1) d) - S.1)) g [.ref rd, .int (-1), .int (nI d)] h (rdP g (fieldR GR t n p S (-1) d) h r q sc b n) := by
  refine z_C.of (by decide) (Nat.le_of_ble_eq_true rfl) (fun pg en s m below meth cd A ls hx hb hml hr hts hown hlocks hnm hK hE hA hw hl => ?_)
  have hl : lv_has ls 6 [(0, .ref rd), (1, .int (-1)), (2, .int (nI d))] := hl
  obtain ⟨fa9, ca, ad, na, ff, cf, nf, hS⟩ := hA9
  have k6z : z_K (fun y => y = 6) h h := z_K.rf
  have rOK : S.1 ≤ rSz (fieldR GR t n p S (-1) d) ∧ rSz (fieldR GR t n p S (-1) d) ≤ 128 := fieldR_ok hGo hs8
  have kk0 : z_K (fun y => y = 6 ∨ y = r ∨ y = r + 1) h h := z_K.rf
  refine lv_aload_n hx hb d_SchemaReader_readField_0 rfl (lv_at hl 0 rfl) ?_
  refine z_callV (n := 0) (As := []) (rest := []) ⟨hx, hb, hml, hown, hts⟩ (c_readKind (t := t) l g h hrd hsc hb0 hn hlen hf (by omega)) (z_in k_246 rfl) (z_in k_9 rfl) (z_in k_243 rfl) (z_in k_245 rfl) (z_in ks_1 rfl) (by decide +kernel) ⟨by first | exact Nat.le_of_ble_eq_true rfl | (dsimp only; omega) | omega, by first | exact Nat.le_of_ble_eq_true rfl | (dsimp only; omega) | omega⟩ hK hE hw hA rfl hrd rfl hl.1 (Nat.le_of_ble_eq_true rfl) d_SchemaReader_readField_1 ⟨by first | exact Nat.le_of_ble_eq_true rfl | (dsimp only; omega) | omega, by first | exact Nat.le_of_ble_eq_true rfl | (dsimp only; omega) | omega⟩ rfl (fun r9 h9 H locs hp hw => ?_)
  rcases hk1 : rdW t n p [0, 1, 2] with F8 | ⟨ki, p1⟩
  · -- hk1 False
    rw [hk1] at hp
    obtain ⟨r8, f1, w1, d1, hh1⟩ := hp
    subst r8
    obtain ⟨h1, e8⟩ : ∃ x9, x9 = h9 := ⟨_, rfl⟩
    subst e8
    have f1_rd : h1 rd = some ((7, 0), .inr (8, [.ref sc, .ref q])) := by rw [← hh1]; exact z_keep hsc hrd (z_t1 (by decide))
    have f1_sc : h1 sc = some ((6, 0), .inr (7, [.ref b, .int (nI n), .int (nI f1), .int (nI F8), .int w1, .int d1])) := by rw [← hh1]; exact z_put_eq
    have f1_b : h1 b = some ((3, 0), .inl (g.2.1 0, len, .inl f)) := by rw [← hh1]; exact z_keep hsc hb0 (z_t1 (by decide))
    have k61 : z_K (fun y => y = 6) h h1 := k6z.tr (by rw [← hh1]; exact z_K.put hsc rfl)
    have kk1 : z_K (fun y => y = 6 ∨ y = r ∨ y = r + 1) h h1 := kk0.tr (by rw [← hh1]; exact z_K.put hsc (by first | decide | simp | omega))
    refine W.eq (g2 := F0 m 4 ls [.int (-1)]) rfl ?_
    refine lv_istore_n (lv' := [(3, .int (-1)), (0, .ref rd), (1, .int (-1)), (2, .int (nI d))]) hx hb d_SchemaReader_readField_4 rfl hl (by decide) rfl (fun ls hl => ?_)
    refine lv_iload_n hx hb d_SchemaReader_readField_5 rfl (lv_at hl 0 rfl) ?_
    refine lv_iconst (v := (-1)) hx hb d_SchemaReader_readField_6 (by decide) ?_
    refine lv_icmp_ne (tgt := 12) hx hb d_SchemaReader_readField_7 (by decide) (fun c_7 => ?_) (fun c_7 => ?_)
    · -- 7: True
      exact absurd (by decide) c_7
    · -- 7: False
      refine lv_iconst (v := 0) hx hb d_SchemaReader_readField_10 (by decide) ?_
      have eW : fieldR GR t n p S (-1) d = .inl (F8, S.1) := by unfold fieldR; rw [hk1]
      have eZ : rSz (fieldR GR t n p S (-1) d) = S.1 := by rw [eW]; rfl
      exact z_zret hx hb hr rfl hlocks hw (by rw [eW]; exact ⟨kk1, rfl, _, _, _, _, f1_sc, rfl⟩) (by first | exact Nat.le_of_ble_eq_true rfl | (dsimp only; omega) | omega) (by first | exact Nat.le_of_ble_eq_true rfl | (dsimp only; omega) | omega) d_SchemaReader_readField_11
  · -- hk1 True
    rw [hk1] at hp
    obtain ⟨r8, f2, w2, d2, hh2⟩ := hp
    subst r8
    obtain ⟨h2, e8⟩ : ∃ x9, x9 = h9 := ⟨_, rfl⟩
    subst e8
    have f2_rd : h2 rd = some ((7, 0), .inr (8, [.ref sc, .ref q])) := by rw [← hh2]; exact z_keep hsc hrd (z_t1 (by decide))
    have f2_sc : h2 sc = some ((6, 0), .inr (7, [.ref b, .int (nI n), .int (nI p1), .int f2, .int w2, .int d2])) := by rw [← hh2]; exact z_put_eq
    have f2_b : h2 b = some ((3, 0), .inl (g.2.1 0, len, .inl f)) := by rw [← hh2]; exact z_keep hsc hb0 (z_t1 (by decide))
    have k62 : z_K (fun y => y = 6) h h2 := k6z.tr (by rw [← hh2]; exact z_K.put hsc rfl)
    have kk2 : z_K (fun y => y = 6 ∨ y = r ∨ y = r + 1) h h2 := kk0.tr (by rw [← hh2]; exact z_K.put hsc (by first | decide | simp | omega))
    obtain ⟨⟨j_ki, hj_ki, e_ki⟩, le_ki, ge_ki⟩ := rdW_ok (by omega) hk1
    have ne_ki : ¬ ki = (-1 : Int32) := by rw [show ki = nI j_ki from e_ki]; exact nI_ne1 (by simp at hj_ki; omega)
    dsimp only at le_ki ge_ki
    have sk_ki := sk_le (t := t) le_ki
    have sg_ki := sk_ge t n p1
    have wl_ki := we_le (t := t) sk_ki
    have wg_ki := we_ge t n (sk t n p1)
    refine W.eq (g2 := F0 m 4 ls [.int ki]) rfl ?_
    refine lv_istore_n (lv' := [(3, .int ki), (0, .ref rd), (1, .int (-1)), (2, .int (nI d))]) hx hb d_SchemaReader_readField_4 rfl hl (by decide) rfl (fun ls hl => ?_)
    refine lv_iload_n hx hb d_SchemaReader_readField_5 rfl (lv_at hl 0 rfl) ?_
    refine lv_iconst (v := (-1)) hx hb d_SchemaReader_readField_6 (by decide) ?_
    refine lv_icmp_ne (tgt := 12) hx hb d_SchemaReader_readField_7 (by decide) (fun c_7 => ?_) (fun c_7 => ?_)
    · -- 7: True
      refine lv_aload_n hx hb d_SchemaReader_readField_12 rfl (lv_at hl 1 rfl) ?_
      refine z_callV (n := 0) (As := []) (rest := []) ⟨hx, hb, hml, hown, hts⟩ (c_readType (t := t) l g h2 f2_rd f2_sc f2_b hn hlen hf (by omega)) (z_in k_335 rfl) (z_in k_9 rfl) (z_in k_332 rfl) (z_in k_334 rfl) (z_in ks_2 rfl) (by decide +kernel) ⟨by first | exact Nat.le_of_ble_eq_true rfl | (dsimp only; omega) | omega, by first | exact Nat.le_of_ble_eq_true rfl | (dsimp only; omega) | omega⟩ hK hE hw hA rfl f2_rd rfl hl.1 (Nat.le_of_ble_eq_true rfl) d_SchemaReader_readField_13 ⟨by first | exact Nat.le_of_ble_eq_true rfl | (dsimp only; omega) | omega, by first | exact Nat.le_of_ble_eq_true rfl | (dsimp only; omega) | omega⟩ rfl (fun r9 h9 H locs hp hw => ?_)
      rcases hk2 : rdW t n p1 [3, 4, 5, 6, 7] with F8 | ⟨ty, p2⟩
      · -- hk2 False
        rw [hk2] at hp
        obtain ⟨r8, f3, w3, d3, hh3⟩ := hp
        subst r8
        obtain ⟨h3, e8⟩ : ∃ x9, x9 = h9 := ⟨_, rfl⟩
        subst e8
        have f3_rd : h3 rd = some ((7, 0), .inr (8, [.ref sc, .ref q])) := by rw [← hh3]; exact z_keep f2_sc f2_rd (z_t1 (by decide))
        have f3_sc : h3 sc = some ((6, 0), .inr (7, [.ref b, .int (nI n), .int (nI f3), .int (nI F8), .int w3, .int d3])) := by rw [← hh3]; exact z_put_eq
        have f3_b : h3 b = some ((3, 0), .inl (g.2.1 0, len, .inl f)) := by rw [← hh3]; exact z_keep f2_sc f2_b (z_t1 (by decide))
        have k63 : z_K (fun y => y = 6) h h3 := k62.tr (by rw [← hh3]; exact z_K.put f2_sc rfl)
        have kk3 : z_K (fun y => y = 6 ∨ y = r ∨ y = r + 1) h h3 := kk2.tr (by rw [← hh3]; exact z_K.put f2_sc (by first | decide | simp | omega))
        refine W.eq (g2 := F0 m 16 ls [.int (-1)]) rfl ?_
        refine lv_istore (lv' := [(4, .int (-1)), (3, .int ki), (0, .ref rd), (1, .int (-1)), (2, .int (nI d))]) hx hb d_SchemaReader_readField_16 hl (by decide) rfl (fun ls hl => ?_)
        refine lv_iload hx hb d_SchemaReader_readField_18 (lv_at hl 0 rfl) ?_
        refine lv_iconst (v := (-1)) hx hb d_SchemaReader_readField_20 (by decide) ?_
        refine lv_icmp_eq (tgt := 34) hx hb d_SchemaReader_readField_21 (by decide) (fun c_21 => ?_) (fun c_21 => ?_)
        · -- 21: True
          refine lv_iconst (v := 0) hx hb d_SchemaReader_readField_34 (by decide) ?_
          have eW : fieldR GR t n p S (-1) d = .inl (F8, S.1) := by unfold fieldR; rw [hk1]; dsimp only; rw [hk2]
          have eZ : rSz (fieldR GR t n p S (-1) d) = S.1 := by rw [eW]; rfl
          exact z_zret hx hb hr rfl hlocks hw (by rw [eW]; exact ⟨kk3, rfl, _, _, _, _, f3_sc, rfl⟩) (by first | exact Nat.le_of_ble_eq_true rfl | (dsimp only; omega) | omega) (by first | exact Nat.le_of_ble_eq_true rfl | (dsimp only; omega) | omega) d_SchemaReader_readField_35
        · -- 21: False
          exact absurd (by decide) c_21
      · -- hk2 True
        rw [hk2] at hp
        obtain ⟨r8, f4, w4, d4, hh4⟩ := hp
        subst r8
        obtain ⟨h4, e8⟩ : ∃ x9, x9 = h9 := ⟨_, rfl⟩
        subst e8
        have f4_rd : h4 rd = some ((7, 0), .inr (8, [.ref sc, .ref q])) := by rw [← hh4]; exact z_keep f2_sc f2_rd (z_t1 (by decide))
        have f4_sc : h4 sc = some ((6, 0), .inr (7, [.ref b, .int (nI n), .int (nI p2), .int f4, .int w4, .int d4])) := by rw [← hh4]; exact z_put_eq
        have f4_b : h4 b = some ((3, 0), .inl (g.2.1 0, len, .inl f)) := by rw [← hh4]; exact z_keep f2_sc f2_b (z_t1 (by decide))
        have k64 : z_K (fun y => y = 6) h h4 := k62.tr (by rw [← hh4]; exact z_K.put f2_sc rfl)
        have kk4 : z_K (fun y => y = 6 ∨ y = r ∨ y = r + 1) h h4 := kk2.tr (by rw [← hh4]; exact z_K.put f2_sc (by first | decide | simp | omega))
        obtain ⟨⟨j_ty, hj_ty, e_ty⟩, le_ty, ge_ty⟩ := rdW_ok (by omega) hk2
        have ne_ty : ¬ ty = (-1 : Int32) := by rw [show ty = nI j_ty from e_ty]; exact nI_ne1 (by simp at hj_ty; omega)
        dsimp only at le_ty ge_ty
        have sk_ty := sk_le (t := t) le_ty
        have sg_ty := sk_ge t n p2
        have wl_ty := we_le (t := t) sk_ty
        have wg_ty := we_ge t n (sk t n p2)
        refine W.eq (g2 := F0 m 16 ls [.int ty]) rfl ?_
        refine lv_istore (lv' := [(4, .int ty), (3, .int ki), (0, .ref rd), (1, .int (-1)), (2, .int (nI d))]) hx hb d_SchemaReader_readField_16 hl (by decide) rfl (fun ls hl => ?_)
        refine lv_iload hx hb d_SchemaReader_readField_18 (lv_at hl 0 rfl) ?_
        refine lv_iconst (v := (-1)) hx hb d_SchemaReader_readField_20 (by decide) ?_
        refine lv_icmp_eq (tgt := 34) hx hb d_SchemaReader_readField_21 (by decide) (fun c_21 => ?_) (fun c_21 => ?_)
        · -- 21: True
          exact absurd c_21 ne_ty
        · -- 21: False
          refine lv_aload_n hx hb d_SchemaReader_readField_24 rfl (lv_at hl 2 rfl) ?_
          refine z_get hx hb hts (z_lay i_SchemaReader) hown hK hw f4_rd rfl 0 (by decide) (z_in k_220 rfl) (fun _ h9 => h9) rfl d_SchemaReader_readField_25 ?_
          refine z_callV (n := 0) (As := []) (rest := []) ⟨hx, hb, hml, hown, hts⟩ (c_Scanner_takeWord (t := t) l g h4 f4_sc f4_b hn hlen hf (by omega)) (z_in k_250 rfl) (z_in k_8 rfl) (z_in k_247 rfl) (z_in k_248 rfl) (z_in k_249 rfl) (by decide +kernel) ⟨by first | exact Nat.le_of_ble_eq_true rfl | (dsimp only; omega) | omega, by first | exact Nat.le_of_ble_eq_true rfl | (dsimp only; omega) | omega⟩ hK hE hw hA rfl f4_sc rfl hl.1 (Nat.le_of_ble_eq_true rfl) d_SchemaReader_readField_28 ⟨by first | exact Nat.le_of_ble_eq_true rfl | (dsimp only; omega) | omega, by first | exact Nat.le_of_ble_eq_true rfl | (dsimp only; omega) | omega⟩ rfl (fun r9 h9 H locs hp hw => ?_)
          unfold tWd at hp
          by_cases cw : isLet (bt t n (sk t n p2)) = true
          · -- cw True
            rw [if_pos cw] at hp
            obtain ⟨r8, hh5⟩ := hp
            subst r8
            obtain ⟨h5, e8⟩ : ∃ x9, x9 = h9 := ⟨_, rfl⟩
            subst e8
            have f5_rd : h5 rd = some ((7, 0), .inr (8, [.ref sc, .ref q])) := by rw [← hh5]; exact z_keep f4_sc f4_rd (z_t1 (by decide))
            have f5_sc : h5 sc = some ((6, 0), .inr (7, [.ref b, .int (nI n), .int (nI (we t n (sk t n p2))), .int f4, .int (nI (sk t n p2)), .int (nI (we t n (sk t n p2)))])) := by rw [← hh5]; exact z_put_eq
            have f5_b : h5 b = some ((3, 0), .inl (g.2.1 0, len, .inl f)) := by rw [← hh5]; exact z_keep f4_sc f4_b (z_t1 (by decide))
            have k65 : z_K (fun y => y = 6) h h5 := k64.tr (by rw [← hh5]; exact z_K.put f4_sc rfl)
            have kk5 : z_K (fun y => y = 6 ∨ y = r ∨ y = r + 1) h h5 := kk4.tr (by rw [← hh5]; exact z_K.put f4_sc (by first | decide | simp | omega))
            refine W.eq (g2 := F0 m 31 ls [.int 1]) rfl ?_
            refine lv_if_ne (tgt := 36) hx hb d_SchemaReader_readField_31 (by decide) (fun c_31 => ?_) (fun c_31 => ?_)
            · -- 31: True
              refine lv_aload_n hx hb d_SchemaReader_readField_36 rfl (lv_at hl 2 rfl) ?_
              refine lv_iload_n hx hb d_SchemaReader_readField_37 rfl (lv_at hl 3 rfl) ?_
              refine lv_iload hx hb d_SchemaReader_readField_38 (lv_at hl 0 rfl) ?_
              refine lv_iload_n hx hb d_SchemaReader_readField_40 rfl (lv_at hl 4 rfl) ?_
              refine z_callV (n := 3) (As := [.int (-1), .int ty, .int (nI d)]) (rest := []) ⟨hx, hb, hml, hown, hts⟩ (c_nameStands (t := t) l g h5 f5_rd f5_sc f5_b (hS.k k65 (by omega) (by omega) (by omega)) hn hlen hf (by omega) (by omega) (by omega)) (z_in k_344 rfl) (z_in k_9 rfl) (z_in k_341 rfl) (z_in k_343 rfl) (z_in ks_3 rfl) (by decide +kernel) ⟨by first | exact Nat.le_of_ble_eq_true rfl | (dsimp only; omega) | omega, by first | exact Nat.le_of_ble_eq_true rfl | (dsimp only; omega) | omega⟩ hK hE hw hA rfl f5_rd rfl hl.1 (Nat.le_of_ble_eq_true rfl) d_SchemaReader_readField_41 ⟨by first | exact Nat.le_of_ble_eq_true rfl | (dsimp only; omega) | omega, by first | exact Nat.le_of_ble_eq_true rfl | (dsimp only; omega) | omega⟩ rfl (fun r9 h9 H locs hp hw => ?_)
              obtain ⟨r8, h8⟩ := hp
              subst r8
              subst h8
              refine W.eq (g2 := F0 m 44 ls [.int (zb (nmSt S t (-1) ty d (sk t n p2) (we t n (sk t n p2))))]) rfl ?_
              refine lv_if_ne (tgt := 55) hx hb d_SchemaReader_readField_44 (by decide) (fun c_44 => ?_) (fun c_44 => ?_)
              · -- 44: True
                have c_44 : (nmSt S t (-1) ty d (sk t n p2) (we t n (sk t n p2))) = true := zb_t c_44
                obtain ⟨st1, st2, st3, st4⟩ := nmSt_ok c_44
                have hM1 : S.1 + 1 ≤ rSz (fieldR GR t n p S (-1) d) := by
                  unfold fieldR; rw [hk1]; dsimp only; rw [hk2]; dsimp only; rw [if_pos cw, if_pos c_44]
                  split
                  · exact (hGo (we t n (sk t n p2)) (addF S ki ty (-1) (nmL t (sk t n p2) (we t n (sk t n p2)))) S.1 (show S.1 + 1 ≤ 128 by omega)).1
                  · unfold sgn; split <;> exact Nat.le_refl _
                refine lv_aload_n hx hb d_SchemaReader_readField_55 rfl (lv_at hl 2 rfl) ?_
                refine z_get hx hb hts (z_lay i_SchemaReader) hown hK hw f5_rd rfl 1 (by decide) (z_in k_221 rfl) (fun _ h9 => h9) rfl d_SchemaReader_readField_56 ?_
                refine lv_iload_n hx hb d_SchemaReader_readField_59 rfl (lv_at hl 1 rfl) ?_
                refine lv_iload hx hb d_SchemaReader_readField_60 (lv_at hl 0 rfl) ?_
                refine lv_iload_n hx hb d_SchemaReader_readField_62 rfl (lv_at hl 3 rfl) ?_
                refine lv_aload_n hx hb d_SchemaReader_readField_63 rfl (lv_at hl 2 rfl) ?_
                refine z_get hx hb hts (z_lay i_SchemaReader) hown hK hw f5_rd rfl 0 (by decide) (z_in k_220 rfl) (fun _ h9 => h9) rfl d_SchemaReader_readField_64 ?_
                refine lv_aload_n hx hb d_SchemaReader_readField_67 rfl (lv_at hl 2 rfl) ?_
                refine z_get hx hb hts (z_lay i_SchemaReader) hown hK hw f5_rd rfl 0 (by decide) (z_in k_220 rfl) (fun _ h9 => h9) rfl d_SchemaReader_readField_68 ?_
                refine z_getN hx hb hts (z_lay i_Scanner) hown hK hw f5_sc rfl 4 (by decide) hE.nest (z_inN k_195 rfl) (fun _ h9 => h9) rfl d_SchemaReader_readField_71 ?_
                refine lv_aload_n hx hb d_SchemaReader_readField_74 rfl (lv_at hl 2 rfl) ?_
                refine z_get hx hb hts (z_lay i_SchemaReader) hown hK hw f5_rd rfl 0 (by decide) (z_in k_220 rfl) (fun _ h9 => h9) rfl d_SchemaReader_readField_75 ?_
                refine z_getN hx hb hts (z_lay i_Scanner) hown hK hw f5_sc rfl 5 (by decide) hE.nest (z_inN k_198 rfl) (fun _ h9 => h9) rfl d_SchemaReader_readField_78 ?_
                refine z_callV (n := 2) (As := [.int (nI (sk t n p2)), .int (nI (we t n (sk t n p2)))]) (rest := [.int (-1), .int ty, .int ki, .ref q]) ⟨hx, hb, hml, hown, hts⟩ (c_Scanner_copy (t := t) (tg := (r + 2, S.1)) l g h5 f5_sc f5_b hn (by omega) (by omega) (by omega) (by omega) hfb) (z_in k_365 rfl) (z_in k_8 rfl) (z_in k_362 rfl) (z_in k_363 rfl) (z_in k_364 rfl) (by decide +kernel) ⟨by first | exact Nat.le_of_ble_eq_true rfl | (dsimp only; omega) | omega, by first | exact Nat.le_of_ble_eq_true rfl | (dsimp only; omega) | omega⟩ hK hE hw hA rfl f5_sc rfl hl.1 (Nat.le_of_ble_eq_true rfl) d_SchemaReader_readField_81 ⟨by first | exact Nat.le_of_ble_eq_true rfl | (dsimp only; omega) | omega, by first | exact Nat.le_of_ble_eq_true rfl | (dsimp only; omega) | omega⟩ rfl (fun r9 h9 H locs hp hw => ?_)
                obtain ⟨nq, fn, r8, n_nq, e9, hh6⟩ := hp
                subst r8
                obtain ⟨h6, e8⟩ : ∃ x9, x9 = h9 := ⟨_, rfl⟩
                subst e8
                have ne_rd_nq : rd ≠ nq := fun z => by have z2 := f5_rd; rw [z, n_nq] at z2; cases z2
                have ne_sc_nq : sc ≠ nq := fun z => by have z2 := f5_sc; rw [z, n_nq] at z2; cases z2
                have ne_b_nq : b ≠ nq := fun z => by have z2 := f5_b; rw [z, n_nq] at z2; cases z2
                have f6_rd : h6 rd = some ((7, 0), .inr (8, [.ref sc, .ref q])) := by rw [← hh6]; exact z_keepN n_nq f5_rd
                have f6_sc : h6 sc = some ((6, 0), .inr (7, [.ref b, .int (nI n), .int (nI (we t n (sk t n p2))), .int f4, .int (nI (sk t n p2)), .int (nI (we t n (sk t n p2)))])) := by rw [← hh6]; exact z_keepN n_nq f5_sc
                have f6_b : h6 b = some ((3, 0), .inl (g.2.1 0, len, .inl f)) := by rw [← hh6]; exact z_keepN n_nq f5_b
                have f6_nq : h6 nq = some ((r + 2, S.1), .inl (g.2.1 0, (we t n (sk t n p2)) - (sk t n p2), .inl fn)) := by rw [← hh6]; exact z_put_eq
                have kk6 : z_K (fun y => y = 6 ∨ y = r ∨ y = r + 1) h h6 := kk5.tr (by rw [← hh6]; exact z_K.new n_nq)
                have k6q : z_K (fun y => y = 6) h h6 := k65.tr (by rw [← hh6]; exact z_K.new n_nq)
                refine W.eq (g2 := F0 m 84 ls [.ref nq, .int (-1), .int ty, .int ki, .ref q]) rfl ?_
                have hS84 := hS.k k6q (by omega) (by omega) (by omega)
                have hq84 := hS84.1
                have nq9 : h6 nq = some ((r + 2, S.1), .inl (g.2.1 0, (nmL t (sk t n p2) (we t n (sk t n p2))).length, .inl fn)) := by rw [nmL_len]; exact f6_nq
                refine z_callV (n := 4) (As := [.int ki, .int ty, .int (-1), .ref nq]) (rest := []) ⟨hx, hb, hml, hown, hts⟩ (c_Schema_append_top (nm := nmL t (sk t n p2) (we t n (sk t n p2))) (fn := fn) l g h6 nq9 hS84 hg (by omega) st3 ⟨by rw [nmL_len]; omega, fun k hk => by rw [nmL_len] at hk; rw [nmL_get t hk, e9 k hk]; refine ⟨wdN_lt (weR_wd t (n - sk t n p2) (sk t n p2) _ (by omega) (show _ < we t n (sk t n p2) by omega)), ?_⟩; exact (hf (sk t n p2 + k) (by omega)).2⟩) (z_in k_392 rfl) (z_in k_4 rfl) (z_in k_389 rfl) (z_in k_390 rfl) (z_in k_391 rfl) (by decide +kernel) ⟨by first | exact Nat.le_of_ble_eq_true rfl | (dsimp only; omega) | omega, by first | exact Nat.le_of_ble_eq_true rfl | (dsimp only; omega) | omega⟩ hK hE hw hA rfl hq84 rfl hl.1 (Nat.le_of_ble_eq_true rfl) d_SchemaReader_readField_84 ⟨by first | exact Nat.le_of_ble_eq_true rfl | (dsimp only; omega) | omega, by first | exact Nat.le_of_ble_eq_true rfl | (dsimp only; omega) | omega⟩ rfl (fun r9 h9 H locs hp hw => ?_)
                obtain ⟨fdd, r8, n_fdd, hS8, kt8⟩ := hp
                subst r8
                obtain ⟨h7, e8⟩ : ∃ x9, x9 = h9 := ⟨_, rfl⟩
                subst e8
                have g7_rd : h7 rd = some ((7, 0), .inr (8, [.ref sc, .ref q])) := kt8 _ _ _ f6_rd (by simp; omega)
                have g7_sc : h7 sc = some ((6, 0), .inr (7, [.ref b, .int (nI n), .int (nI (we t n (sk t n p2))), .int f4, .int (nI (sk t n p2)), .int (nI (we t n (sk t n p2)))])) := kt8 _ _ _ f6_sc (by simp; omega)
                have g7_b : h7 b = some ((3, 0), .inl (g.2.1 0, len, .inl f)) := kt8 _ _ _ f6_b (by simp; omega)
                have kk7 : z_K (fun y => y = 6 ∨ y = r ∨ y = r + 1) h h7 := kk6.tr (kt8.K (fun t z => by rcases z with z | z | z | z <;> simp [z]))
                obtain ⟨Sn, eSn⟩ : ∃ x9, x9 = addF S ki ty (-1) (nmL t (sk t n p2) (we t n (sk t n p2))) := ⟨_, rfl⟩
                rw [← eSn] at hS8
                have sz8 : Sn.1 = S.1 + 1 := by rw [eSn]; rfl
                have gO8 : grOK Sn := by rw [eSn]; exact grOK_add hg (Or.inl rfl)
                have sA8 : SchAt g h7 r q Sn := ⟨_, _, _, _, _, _, _, hS8⟩
                have k6n : z_K (fun y => y = 6) h7 h7 := z_K.rf
                refine W.eq (g2 := F0 m 87 ls [.int (nI S.1)]) rfl ?_
                refine lv_istore (lv' := [(5, .int (nI S.1)), (4, .int ty), (3, .int ki), (0, .ref rd), (1, .int (-1)), (2, .int (nI d))]) hx hb d_SchemaReader_readField_87 hl (by decide) rfl (fun ls hl => ?_)
                refine lv_iload hx hb d_SchemaReader_readField_89 (lv_at hl 1 rfl) ?_
                refine lv_iconst (v := 4) hx hb d_SchemaReader_readField_91 (by decide) ?_
                refine lv_icmp_ne (tgt := 107) hx hb d_SchemaReader_readField_92 (by decide) (fun c_92 => ?_) (fun c_92 => ?_)
                · -- 92: True
                  have ske := sk_le (t := t) (show we t n (sk t n p2) ≤ n by omega)
                  refine lv_aload_n hx hb d_SchemaReader_readField_107 rfl (lv_at hl 3 rfl) ?_
                  refine z_get hx hb hts (z_lay i_SchemaReader) hown hK hw g7_rd rfl 0 (by decide) (z_in k_220 rfl) (fun _ h9 => h9) rfl d_SchemaReader_readField_108 ?_
                  refine lv_bipush (v := 59) hx hb d_SchemaReader_readField_111 (by decide) ?_
                  refine z_callV (n := 1) (As := [.int 59]) (rest := []) ⟨hx, hb, hml, hown, hts⟩ (c_Scanner_takeSign (t := t) l g h7 g7_sc g7_b hn hlen hf (by omega)) (z_in k_456 rfl) (z_in k_8 rfl) (z_in k_453 rfl) (z_in k_454 rfl) (z_in k_455 rfl) (by decide +kernel) ⟨by first | exact Nat.le_of_ble_eq_true rfl | (dsimp only; omega) | omega, by first | exact Nat.le_of_ble_eq_true rfl | (dsimp only; omega) | omega⟩ hK hE hw hA rfl g7_sc rfl hl.1 (Nat.le_of_ble_eq_true rfl) d_SchemaReader_readField_113 ⟨by first | exact Nat.le_of_ble_eq_true rfl | (dsimp only; omega) | omega, by first | exact Nat.le_of_ble_eq_true rfl | (dsimp only; omega) | omega⟩ rfl (fun r9 h9 H locs hp hw => ?_)
                  unfold tSg at hp
                  by_cases ts : bt t n (sk t n (we t n (sk t n p2))) = 59
                  · -- ts True
                    rw [if_pos ts] at hp
                    obtain ⟨r8, hh8⟩ := hp
                    subst r8
                    obtain ⟨h8, e8⟩ : ∃ x9, x9 = h9 := ⟨_, rfl⟩
                    subst e8
                    have f8_rd : h8 rd = some ((7, 0), .inr (8, [.ref sc, .ref q])) := by rw [← hh8]; exact z_keep g7_sc g7_rd (z_t1 (by decide))
                    have f8_sc : h8 sc = some ((6, 0), .inr (7, [.ref b, .int (nI n), .int (nI (sk t n (we t n (sk t n p2)) + 1)), .int f4, .int (nI (sk t n p2)), .int (nI (we t n (sk t n p2)))])) := by rw [← hh8]; exact z_put_eq
                    have f8_b : h8 b = some ((3, 0), .inl (g.2.1 0, len, .inl f)) := by rw [← hh8]; exact z_keep g7_sc g7_b (z_t1 (by decide))
                    have kk8 : z_K (fun y => y = 6 ∨ y = r ∨ y = r + 1) h h8 := kk7.tr (by rw [← hh8]; exact z_K.put g7_sc (by first | decide | simp | omega))
                    refine W.eq (g2 := F0 m 116 ls [.int 1]) rfl ?_
                    have eW : fieldR GR t n p S (-1) d = .inr (sk t n (we t n (sk t n p2)) + 1, Sn) := by unfold fieldR; rw [hk1]; dsimp only; rw [hk2]; dsimp only; rw [if_pos cw, if_pos c_44, if_neg c_92, ← eSn]; unfold sgn; rw [if_pos ts]
                    have eZ : rSz (fieldR GR t n p S (-1) d) = Sn.1 := by rw [eW]; rfl
                    exact z_zret hx hb hr rfl hlocks hw (by rw [eW]; exact ⟨kk8, rfl, ⟨_, _, _, f8_sc⟩, by have z := bt_lt ts; omega, sA8.k (R := fun y => y = 6) (by rw [← hh8]; exact z_K.put g7_sc rfl) (by omega) (by omega) (by omega), gO8⟩) (by first | exact Nat.le_of_ble_eq_true rfl | (dsimp only; omega) | omega) (by first | exact Nat.le_of_ble_eq_true rfl | (dsimp only; omega) | omega) d_SchemaReader_readField_116
                  · -- ts False
                    rw [if_neg ts] at hp
                    obtain ⟨r8, hh9⟩ := hp
                    subst r8
                    obtain ⟨h9, e8⟩ : ∃ x9, x9 = h9 := ⟨_, rfl⟩
                    subst e8
                    have f9_rd : h9 rd = some ((7, 0), .inr (8, [.ref sc, .ref q])) := by rw [← hh9]; exact z_keep g7_sc g7_rd (z_t1 (by decide))
                    have f9_sc : h9 sc = some ((6, 0), .inr (7, [.ref b, .int (nI n), .int (nI (sk t n (we t n (sk t n p2)))), .int (nI (sk t n (we t n (sk t n p2)))), .int (nI (sk t n p2)), .int (nI (we t n (sk t n p2)))])) := by rw [← hh9]; exact z_put_eq
                    have f9_b : h9 b = some ((3, 0), .inl (g.2.1 0, len, .inl f)) := by rw [← hh9]; exact z_keep g7_sc g7_b (z_t1 (by decide))
                    have kk9 : z_K (fun y => y = 6 ∨ y = r ∨ y = r + 1) h h9 := kk7.tr (by rw [← hh9]; exact z_K.put g7_sc (by first | decide | simp | omega))
                    refine W.eq (g2 := F0 m 116 ls [.int 0]) rfl ?_
                    have eW : fieldR GR t n p S (-1) d = .inl (sk t n (we t n (sk t n p2)), Sn.1) := by unfold fieldR; rw [hk1]; dsimp only; rw [hk2]; dsimp only; rw [if_pos cw, if_pos c_44, if_neg c_92, ← eSn]; unfold sgn; rw [if_neg ts]
                    have eZ : rSz (fieldR GR t n p S (-1) d) = Sn.1 := by rw [eW]; rfl
                    exact z_zret hx hb hr rfl hlocks hw (by rw [eW]; exact ⟨kk9, rfl, _, _, _, _, f9_sc, rfl⟩) (by first | exact Nat.le_of_ble_eq_true rfl | (dsimp only; omega) | omega) (by first | exact Nat.le_of_ble_eq_true rfl | (dsimp only; omega) | omega) d_SchemaReader_readField_116
                · -- 92: False
                  have eM : fieldR GR t n p S (-1) d = GR (we t n (sk t n p2)) Sn S.1 := by unfold fieldR; rw [hk1]; dsimp only; rw [hk2]; dsimp only; rw [if_pos cw, if_pos c_44, if_pos c_92, ← eSn]
                  have okG : Sn.1 ≤ rSz (GR (we t n (sk t n p2)) Sn S.1) ∧ rSz (GR (we t n (sk t n p2)) Sn S.1) ≤ 128 := hGo (we t n (sk t n p2)) Sn S.1 (by omega)
                  have eMz : rSz (fieldR GR t n p S (-1) d) = rSz (GR (we t n (sk t n p2)) Sn S.1) := by rw [eM]
                  refine lv_aload_n hx hb d_SchemaReader_readField_95 rfl (lv_at hl 3 rfl) ?_
                  refine lv_iload hx hb d_SchemaReader_readField_96 (lv_at hl 0 rfl) ?_
                  refine lv_iload_n hx hb d_SchemaReader_readField_98 rfl (lv_at hl 5 rfl) ?_
                  refine lv_iconst (v := 1) hx hb d_SchemaReader_readField_99 (by decide) ?_
                  refine lv_iadd hx hb d_SchemaReader_readField_100 ?_
                  refine z_topi (y := nI (d + 1)) (nI_add d 1) ?_
                  refine z_callV (n := 2) (As := [.int (nI S.1), .int (nI (d + 1))]) (rest := []) ⟨hx, hb, hml, hown, hts⟩ (hG (st4 c_92) h7 (we t n (sk t n p2)) Sn S.1 _ _ _ g7_rd g7_sc g7_b (by omega) sA8 gO8 (by omega) (by omega)) (z_in k_452 rfl) (z_in k_9 rfl) (z_in k_449 rfl) (z_in k_451 rfl) (z_in ks_5 rfl) (by decide +kernel) ⟨by first | exact Nat.le_of_ble_eq_true rfl | (dsimp only; omega) | omega, by first | exact Nat.le_of_ble_eq_true rfl | (dsimp only; omega) | omega⟩ hK hE hw hA rfl g7_rd rfl hl.1 (Nat.le_of_ble_eq_true rfl) d_SchemaReader_readField_101 ⟨by first | exact Nat.le_of_ble_eq_true rfl | (dsimp only; omega) | omega, by first | exact Nat.le_of_ble_eq_true rfl | (dsimp only; omega) | omega⟩ rfl (fun r9 h9 H locs hp hw => ?_)
                  obtain ⟨kk8, hp⟩ := hp
                  rcases hR8 : GR (we t n (sk t n p2)) Sn S.1 with ⟨F8, m8⟩ | ⟨p8, S8⟩
                  · -- group False
                    rw [hR8] at hp
                    have hz7 : rSz (.inl (F8, m8) : Res) = m8 := rfl
                    obtain ⟨r8, pf8, f8, w8, d8, e8, g8⟩ := hp
                    subst r8
                    obtain ⟨h10, e7⟩ : ∃ x9, x9 = h9 := ⟨_, rfl⟩
                    subst e7
                    have kk10 : z_K (fun y => y = 6 ∨ y = r ∨ y = r + 1) h h10 := kk7.tr kk8
                    refine W.eq (g2 := F0 m 104 ls [.int 0]) rfl ?_
                    refine lv_goto (tgt := 116) hx hb d_SchemaReader_readField_104 (by decide) ?_
                    have eW : fieldR GR t n p S (-1) d = .inl (F8, m8) := by unfold fieldR; rw [hk1]; dsimp only; rw [hk2]; dsimp only; rw [if_pos cw, if_pos c_44, if_pos c_92, ← eSn, hR8]
                    have eZ : rSz (fieldR GR t n p S (-1) d) = m8 := by rw [eW]; rfl
                    exact z_zret hx hb hr rfl hlocks hw (by rw [eW]; exact ⟨kk10, rfl, _, _, _, _, e8, g8⟩) (by first | exact Nat.le_of_ble_eq_true rfl | (dsimp only; omega) | omega) (by first | exact Nat.le_of_ble_eq_true rfl | (dsimp only; omega) | omega) d_SchemaReader_readField_116
                  · -- group True
                    rw [hR8] at hp
                    have hz7 : rSz (.inr (p8, S8) : Res) = S8.1 := rfl
                    obtain ⟨r8, ⟨f8, w8, d8, e8⟩, le8, sA9, gO9⟩ := hp
                    subst r8
                    obtain ⟨h11, e7⟩ : ∃ x9, x9 = h9 := ⟨_, rfl⟩
                    subst e7
                    have kk11 : z_K (fun y => y = 6 ∨ y = r ∨ y = r + 1) h h11 := kk7.tr kk8
                    refine W.eq (g2 := F0 m 104 ls [.int 1]) rfl ?_
                    refine lv_goto (tgt := 116) hx hb d_SchemaReader_readField_104 (by decide) ?_
                    have eW : fieldR GR t n p S (-1) d = .inr (p8, S8) := by unfold fieldR; rw [hk1]; dsimp only; rw [hk2]; dsimp only; rw [if_pos cw, if_pos c_44, if_pos c_92, ← eSn, hR8]
                    have eZ : rSz (fieldR GR t n p S (-1) d) = S8.1 := by rw [eW]; rfl
                    exact z_zret hx hb hr rfl hlocks hw (by rw [eW]; exact ⟨kk11, rfl, ⟨_, _, _, e8⟩, le8, sA9, gO9⟩) (by first | exact Nat.le_of_ble_eq_true rfl | (dsimp only; omega) | omega) (by first | exact Nat.le_of_ble_eq_true rfl | (dsimp only; omega) | omega) d_SchemaReader_readField_116
              · -- 44: False
                have c_44 : (nmSt S t (-1) ty d (sk t n p2) (we t n (sk t n p2))) = false := zb_f c_44
                refine lv_aload_n hx hb d_SchemaReader_readField_47 rfl (lv_at hl 2 rfl) ?_
                refine z_get hx hb hts (z_lay i_SchemaReader) hown hK hw f5_rd rfl 0 (by decide) (z_in k_220 rfl) (fun _ h9 => h9) rfl d_SchemaReader_readField_48 ?_
                refine z_callV (n := 0) (As := []) (rest := []) ⟨hx, hb, hml, hown, hts⟩ (c_Scanner_failAtWord l g h5 f5_sc) (z_in k_331 rfl) (z_in k_8 rfl) (z_in k_328 rfl) (z_in k_329 rfl) (z_in k_330 rfl) (by decide +kernel) ⟨by first | exact Nat.le_of_ble_eq_true rfl | (dsimp only; omega) | omega, by first | exact Nat.le_of_ble_eq_true rfl | (dsimp only; omega) | omega⟩ hK hE hw hA rfl f5_sc rfl hl.1 (Nat.le_of_ble_eq_true rfl) d_SchemaReader_readField_51 ⟨by first | exact Nat.le_of_ble_eq_true rfl | (dsimp only; omega) | omega, by first | exact Nat.le_of_ble_eq_true rfl | (dsimp only; omega) | omega⟩ rfl (fun r9 h9 H locs hp hw => ?_)
                obtain ⟨r8, hh12⟩ := hp
                subst r8
                obtain ⟨h12, e8⟩ : ∃ x9, x9 = h9 := ⟨_, rfl⟩
                subst e8
                have f12_rd : h12 rd = some ((7, 0), .inr (8, [.ref sc, .ref q])) := by rw [← hh12]; exact z_keep f5_sc f5_rd (z_t1 (by decide))
                have f12_sc : h12 sc = some ((6, 0), .inr (7, [.ref b, .int (nI n), .int (nI (we t n (sk t n p2))), .int (nI (sk t n p2)), .int (nI (sk t n p2)), .int (nI (we t n (sk t n p2)))])) := by rw [← hh12]; exact z_put_eq
                have f12_b : h12 b = some ((3, 0), .inl (g.2.1 0, len, .inl f)) := by rw [← hh12]; exact z_keep f5_sc f5_b (z_t1 (by decide))
                have k612 : z_K (fun y => y = 6) h h12 := k65.tr (by rw [← hh12]; exact z_K.put f5_sc rfl)
                have kk12 : z_K (fun y => y = 6 ∨ y = r ∨ y = r + 1) h h12 := kk5.tr (by rw [← hh12]; exact z_K.put f5_sc (by first | decide | simp | omega))
                refine W.eq (g2 := F0 m 54 ls [.int 0]) rfl ?_
                have eW : fieldR GR t n p S (-1) d = .inl (sk t n p2, S.1) := by unfold fieldR; rw [hk1]; dsimp only; rw [hk2]; dsimp only; rw [if_pos cw, if_neg (by rw [c_44]; decide)]
                have eZ : rSz (fieldR GR t n p S (-1) d) = S.1 := by rw [eW]; rfl
                exact z_zret hx hb hr rfl hlocks hw (by rw [eW]; exact ⟨kk12, rfl, _, _, _, _, f12_sc, rfl⟩) (by first | exact Nat.le_of_ble_eq_true rfl | (dsimp only; omega) | omega) (by first | exact Nat.le_of_ble_eq_true rfl | (dsimp only; omega) | omega) d_SchemaReader_readField_54
            · -- 31: False
              exact absurd c_31 (by decide)
          · -- cw False
            rw [if_neg cw] at hp
            obtain ⟨r8, hh13⟩ := hp
            subst r8
            obtain ⟨h13, e8⟩ : ∃ x9, x9 = h9 := ⟨_, rfl⟩
            subst e8
            have f13_rd : h13 rd = some ((7, 0), .inr (8, [.ref sc, .ref q])) := by rw [← hh13]; exact z_keep f4_sc f4_rd (z_t1 (by decide))
            have f13_sc : h13 sc = some ((6, 0), .inr (7, [.ref b, .int (nI n), .int (nI (sk t n p2)), .int (nI (sk t n p2)), .int w4, .int d4])) := by rw [← hh13]; exact z_put_eq
            have f13_b : h13 b = some ((3, 0), .inl (g.2.1 0, len, .inl f)) := by rw [← hh13]; exact z_keep f4_sc f4_b (z_t1 (by decide))
            have k613 : z_K (fun y => y = 6) h h13 := k64.tr (by rw [← hh13]; exact z_K.put f4_sc rfl)
            have kk13 : z_K (fun y => y = 6 ∨ y = r ∨ y = r + 1) h h13 := kk4.tr (by rw [← hh13]; exact z_K.put f4_sc (by first | decide | simp | omega))
            refine W.eq (g2 := F0 m 31 ls [.int 0]) rfl ?_
            refine lv_if_ne (tgt := 36) hx hb d_SchemaReader_readField_31 (by decide) (fun c_31 => ?_) (fun c_31 => ?_)
            · -- 31: True
              exact absurd (by decide) c_31
            · -- 31: False
              refine lv_iconst (v := 0) hx hb d_SchemaReader_readField_34 (by decide) ?_
              have eW : fieldR GR t n p S (-1) d = .inl (sk t n p2, S.1) := by unfold fieldR; rw [hk1]; dsimp only; rw [hk2]; dsimp only; rw [if_neg cw]
              have eZ : rSz (fieldR GR t n p S (-1) d) = S.1 := by rw [eW]; rfl
              exact z_zret hx hb hr rfl hlocks hw (by rw [eW]; exact ⟨kk13, rfl, _, _, _, _, f13_sc, rfl⟩) (by first | exact Nat.le_of_ble_eq_true rfl | (dsimp only; omega) | omega) (by first | exact Nat.le_of_ble_eq_true rfl | (dsimp only; omega) | omega) d_SchemaReader_readField_35
    · -- 7: False
      exact absurd c_7 ne_ki

set_option maxHeartbeats 4000000 in
set_option maxRecDepth 100000 in
theorem c_readField_of (l : Launch) (g : z_G) (h : z_H) {r q : Nat} {S : Sch} {rd sc b len n p d fG lG i : Nat} {f : Nat → Int32} {fa ws wd : Int32} {t : Nat → Nat} {GR : Nat → Sch → Nat → Res} (hrd : h rd = some ((7, 0), .inr (8, [.ref sc, .ref q]))) (hsc : h sc = some ((6, 0), .inr (7, [.ref b, .int (nI n), .int (nI p), .int fa, .int ws, .int wd]))) (hb0 : h b = some ((3, 0), .inl (g.2.1 0, len, .inl f))) (hn : n ≤ len) (hlen : len < 2 ^ 31) (hf : ∀ k, k < n → t k < 256 ∧ f k = sb_b (t k)) (hp : p ≤ n) (hl29 : len < 2 ^ 29) (hl16 : 16 < len) (hfb : z_fb f len) (hr0 : 100 ≤ r) (hA9 : SchAt g h r q S) (hg : grOK S) (hs8 : S.1 ≤ 128) (hd9 : d < 1000) (hi : i < S.1) (hG : d < 16 → ∀ (h : z_H) (p : Nat) (S : Sch) (gi : Nat) (fa ws wd : Int32), h rd = some ((7, 0), .inr (8, [.ref sc, .ref q])) → h sc = some ((6, 0), scE b n p fa ws wd) → h b = some ((3, 0), .inl (g.2.1 0, len, .inl f)) → p ≤ n → SchAt g h r q S → grOK S → gi < S.1 → S.1 ≤ 128 → z_C l y_SchemaReader_readGroup prog_10_method_4_code 4 (Option.some Jvm.ClassFile.FieldType.boolean) fG lG (2 * (rSz (GR p S gi) - S.1)) (25 * (rSz (GR p S gi) - S.1)) g [.ref rd, .int (nI gi), .int (nI (d + 1))] h (rdP g (GR p S gi) h r q sc b n)) (hGo : ∀ p S gi, S.1 ≤ 128 → resOK S (GR p S gi)) : z_C l y_SchemaReader_readField prog_10_method_3_code 6 (Option.some Jvm.ClassFile.FieldType.boolean) (fG + 8) (lG + 250) (2 * (rSz (fieldR GR t n p S (nI i) d) - S.1)) (25 * (rSz (fieldR GR t n p S (nI i) d) - S.1)) g [.ref rd, .int (nI i), .int (nI d)] h (rdP g (fieldR GR t n p S (nI i) d) h r q sc b n) := by
  refine z_C.of (by decide) (Nat.le_of_ble_eq_true rfl) (fun pg en s m below meth cd A ls hx hb hml hr hts hown hlocks hnm hK hE hA hw hl => ?_)
  have hl : lv_has ls 6 [(0, .ref rd), (1, .int (nI i)), (2, .int (nI d))] := hl
  obtain ⟨fa9, ca, ad, na, ff, cf, nf, hS⟩ := hA9
  have k6z : z_K (fun y => y = 6) h h := z_K.rf
  have rOK : S.1 ≤ rSz (fieldR GR t n p S (nI i) d) ∧ rSz (fieldR GR t n p S (nI i) d) ≤ 128 := fieldR_ok hGo hs8
  have kk0 : z_K (fun y => y = 6 ∨ y = r ∨ y = r + 1) h h := z_K.rf
  refine lv_aload_n hx hb d_SchemaReader_readField_0 rfl (lv_at hl 0 rfl) ?_
  refine z_callV (n := 0) (As := []) (rest := []) ⟨hx, hb, hml, hown, hts⟩ (c_readKind (t := t) l g h hrd hsc hb0 hn hlen hf (by omega)) (z_in k_246 rfl) (z_in k_9 rfl) (z_in k_243 rfl) (z_in k_245 rfl) (z_in ks_1 rfl) (by decide +kernel) ⟨by first | exact Nat.le_of_ble_eq_true rfl | (dsimp only; omega) | omega, by first | exact Nat.le_of_ble_eq_true rfl | (dsimp only; omega) | omega⟩ hK hE hw hA rfl hrd rfl hl.1 (Nat.le_of_ble_eq_true rfl) d_SchemaReader_readField_1 ⟨by first | exact Nat.le_of_ble_eq_true rfl | (dsimp only; omega) | omega, by first | exact Nat.le_of_ble_eq_true rfl | (dsimp only; omega) | omega⟩ rfl (fun r9 h9 H locs hp hw => ?_)
  rcases hk1 : rdW t n p [0, 1, 2] with F8 | ⟨ki, p1⟩
  · -- hk1 False
    rw [hk1] at hp
    obtain ⟨r8, f1, w1, d1, hh1⟩ := hp
    subst r8
    obtain ⟨h1, e8⟩ : ∃ x9, x9 = h9 := ⟨_, rfl⟩
    subst e8
    have f1_rd : h1 rd = some ((7, 0), .inr (8, [.ref sc, .ref q])) := by rw [← hh1]; exact z_keep hsc hrd (z_t1 (by decide))
    have f1_sc : h1 sc = some ((6, 0), .inr (7, [.ref b, .int (nI n), .int (nI f1), .int (nI F8), .int w1, .int d1])) := by rw [← hh1]; exact z_put_eq
    have f1_b : h1 b = some ((3, 0), .inl (g.2.1 0, len, .inl f)) := by rw [← hh1]; exact z_keep hsc hb0 (z_t1 (by decide))
    have k61 : z_K (fun y => y = 6) h h1 := k6z.tr (by rw [← hh1]; exact z_K.put hsc rfl)
    have kk1 : z_K (fun y => y = 6 ∨ y = r ∨ y = r + 1) h h1 := kk0.tr (by rw [← hh1]; exact z_K.put hsc (by first | decide | simp | omega))
    refine W.eq (g2 := F0 m 4 ls [.int (-1)]) rfl ?_
    refine lv_istore_n (lv' := [(3, .int (-1)), (0, .ref rd), (1, .int (nI i)), (2, .int (nI d))]) hx hb d_SchemaReader_readField_4 rfl hl (by decide) rfl (fun ls hl => ?_)
    refine lv_iload_n hx hb d_SchemaReader_readField_5 rfl (lv_at hl 0 rfl) ?_
    refine lv_iconst (v := (-1)) hx hb d_SchemaReader_readField_6 (by decide) ?_
    refine lv_icmp_ne (tgt := 12) hx hb d_SchemaReader_readField_7 (by decide) (fun c_7 => ?_) (fun c_7 => ?_)
    · -- 7: True
      exact absurd (by decide) c_7
    · -- 7: False
      refine lv_iconst (v := 0) hx hb d_SchemaReader_readField_10 (by decide) ?_
      have eW : fieldR GR t n p S (nI i) d = .inl (F8, S.1) := by unfold fieldR; rw [hk1]
      have eZ : rSz (fieldR GR t n p S (nI i) d) = S.1 := by rw [eW]; rfl
      exact z_zret hx hb hr rfl hlocks hw (by rw [eW]; exact ⟨kk1, rfl, _, _, _, _, f1_sc, rfl⟩) (by first | exact Nat.le_of_ble_eq_true rfl | (dsimp only; omega) | omega) (by first | exact Nat.le_of_ble_eq_true rfl | (dsimp only; omega) | omega) d_SchemaReader_readField_11
  · -- hk1 True
    rw [hk1] at hp
    obtain ⟨r8, f2, w2, d2, hh2⟩ := hp
    subst r8
    obtain ⟨h2, e8⟩ : ∃ x9, x9 = h9 := ⟨_, rfl⟩
    subst e8
    have f2_rd : h2 rd = some ((7, 0), .inr (8, [.ref sc, .ref q])) := by rw [← hh2]; exact z_keep hsc hrd (z_t1 (by decide))
    have f2_sc : h2 sc = some ((6, 0), .inr (7, [.ref b, .int (nI n), .int (nI p1), .int f2, .int w2, .int d2])) := by rw [← hh2]; exact z_put_eq
    have f2_b : h2 b = some ((3, 0), .inl (g.2.1 0, len, .inl f)) := by rw [← hh2]; exact z_keep hsc hb0 (z_t1 (by decide))
    have k62 : z_K (fun y => y = 6) h h2 := k6z.tr (by rw [← hh2]; exact z_K.put hsc rfl)
    have kk2 : z_K (fun y => y = 6 ∨ y = r ∨ y = r + 1) h h2 := kk0.tr (by rw [← hh2]; exact z_K.put hsc (by first | decide | simp | omega))
    obtain ⟨⟨j_ki, hj_ki, e_ki⟩, le_ki, ge_ki⟩ := rdW_ok (by omega) hk1
    have ne_ki : ¬ ki = (-1 : Int32) := by rw [show ki = nI j_ki from e_ki]; exact nI_ne1 (by simp at hj_ki; omega)
    dsimp only at le_ki ge_ki
    have sk_ki := sk_le (t := t) le_ki
    have sg_ki := sk_ge t n p1
    have wl_ki := we_le (t := t) sk_ki
    have wg_ki := we_ge t n (sk t n p1)
    refine W.eq (g2 := F0 m 4 ls [.int ki]) rfl ?_
    refine lv_istore_n (lv' := [(3, .int ki), (0, .ref rd), (1, .int (nI i)), (2, .int (nI d))]) hx hb d_SchemaReader_readField_4 rfl hl (by decide) rfl (fun ls hl => ?_)
    refine lv_iload_n hx hb d_SchemaReader_readField_5 rfl (lv_at hl 0 rfl) ?_
    refine lv_iconst (v := (-1)) hx hb d_SchemaReader_readField_6 (by decide) ?_
    refine lv_icmp_ne (tgt := 12) hx hb d_SchemaReader_readField_7 (by decide) (fun c_7 => ?_) (fun c_7 => ?_)
    · -- 7: True
      refine lv_aload_n hx hb d_SchemaReader_readField_12 rfl (lv_at hl 1 rfl) ?_
      refine z_callV (n := 0) (As := []) (rest := []) ⟨hx, hb, hml, hown, hts⟩ (c_readType (t := t) l g h2 f2_rd f2_sc f2_b hn hlen hf (by omega)) (z_in k_335 rfl) (z_in k_9 rfl) (z_in k_332 rfl) (z_in k_334 rfl) (z_in ks_2 rfl) (by decide +kernel) ⟨by first | exact Nat.le_of_ble_eq_true rfl | (dsimp only; omega) | omega, by first | exact Nat.le_of_ble_eq_true rfl | (dsimp only; omega) | omega⟩ hK hE hw hA rfl f2_rd rfl hl.1 (Nat.le_of_ble_eq_true rfl) d_SchemaReader_readField_13 ⟨by first | exact Nat.le_of_ble_eq_true rfl | (dsimp only; omega) | omega, by first | exact Nat.le_of_ble_eq_true rfl | (dsimp only; omega) | omega⟩ rfl (fun r9 h9 H locs hp hw => ?_)
      rcases hk2 : rdW t n p1 [3, 4, 5, 6, 7] with F8 | ⟨ty, p2⟩
      · -- hk2 False
        rw [hk2] at hp
        obtain ⟨r8, f3, w3, d3, hh3⟩ := hp
        subst r8
        obtain ⟨h3, e8⟩ : ∃ x9, x9 = h9 := ⟨_, rfl⟩
        subst e8
        have f3_rd : h3 rd = some ((7, 0), .inr (8, [.ref sc, .ref q])) := by rw [← hh3]; exact z_keep f2_sc f2_rd (z_t1 (by decide))
        have f3_sc : h3 sc = some ((6, 0), .inr (7, [.ref b, .int (nI n), .int (nI f3), .int (nI F8), .int w3, .int d3])) := by rw [← hh3]; exact z_put_eq
        have f3_b : h3 b = some ((3, 0), .inl (g.2.1 0, len, .inl f)) := by rw [← hh3]; exact z_keep f2_sc f2_b (z_t1 (by decide))
        have k63 : z_K (fun y => y = 6) h h3 := k62.tr (by rw [← hh3]; exact z_K.put f2_sc rfl)
        have kk3 : z_K (fun y => y = 6 ∨ y = r ∨ y = r + 1) h h3 := kk2.tr (by rw [← hh3]; exact z_K.put f2_sc (by first | decide | simp | omega))
        refine W.eq (g2 := F0 m 16 ls [.int (-1)]) rfl ?_
        refine lv_istore (lv' := [(4, .int (-1)), (3, .int ki), (0, .ref rd), (1, .int (nI i)), (2, .int (nI d))]) hx hb d_SchemaReader_readField_16 hl (by decide) rfl (fun ls hl => ?_)
        refine lv_iload hx hb d_SchemaReader_readField_18 (lv_at hl 0 rfl) ?_
        refine lv_iconst (v := (-1)) hx hb d_SchemaReader_readField_20 (by decide) ?_
        refine lv_icmp_eq (tgt := 34) hx hb d_SchemaReader_readField_21 (by decide) (fun c_21 => ?_) (fun c_21 => ?_)
        · -- 21: True
          refine lv_iconst (v := 0) hx hb d_SchemaReader_readField_34 (by decide) ?_
          have eW : fieldR GR t n p S (nI i) d = .inl (F8, S.1) := by unfold fieldR; rw [hk1]; dsimp only; rw [hk2]
          have eZ : rSz (fieldR GR t n p S (nI i) d) = S.1 := by rw [eW]; rfl
          exact z_zret hx hb hr rfl hlocks hw (by rw [eW]; exact ⟨kk3, rfl, _, _, _, _, f3_sc, rfl⟩) (by first | exact Nat.le_of_ble_eq_true rfl | (dsimp only; omega) | omega) (by first | exact Nat.le_of_ble_eq_true rfl | (dsimp only; omega) | omega) d_SchemaReader_readField_35
        · -- 21: False
          exact absurd (by decide) c_21
      · -- hk2 True
        rw [hk2] at hp
        obtain ⟨r8, f4, w4, d4, hh4⟩ := hp
        subst r8
        obtain ⟨h4, e8⟩ : ∃ x9, x9 = h9 := ⟨_, rfl⟩
        subst e8
        have f4_rd : h4 rd = some ((7, 0), .inr (8, [.ref sc, .ref q])) := by rw [← hh4]; exact z_keep f2_sc f2_rd (z_t1 (by decide))
        have f4_sc : h4 sc = some ((6, 0), .inr (7, [.ref b, .int (nI n), .int (nI p2), .int f4, .int w4, .int d4])) := by rw [← hh4]; exact z_put_eq
        have f4_b : h4 b = some ((3, 0), .inl (g.2.1 0, len, .inl f)) := by rw [← hh4]; exact z_keep f2_sc f2_b (z_t1 (by decide))
        have k64 : z_K (fun y => y = 6) h h4 := k62.tr (by rw [← hh4]; exact z_K.put f2_sc rfl)
        have kk4 : z_K (fun y => y = 6 ∨ y = r ∨ y = r + 1) h h4 := kk2.tr (by rw [← hh4]; exact z_K.put f2_sc (by first | decide | simp | omega))
        obtain ⟨⟨j_ty, hj_ty, e_ty⟩, le_ty, ge_ty⟩ := rdW_ok (by omega) hk2
        have ne_ty : ¬ ty = (-1 : Int32) := by rw [show ty = nI j_ty from e_ty]; exact nI_ne1 (by simp at hj_ty; omega)
        dsimp only at le_ty ge_ty
        have sk_ty := sk_le (t := t) le_ty
        have sg_ty := sk_ge t n p2
        have wl_ty := we_le (t := t) sk_ty
        have wg_ty := we_ge t n (sk t n p2)
        refine W.eq (g2 := F0 m 16 ls [.int ty]) rfl ?_
        refine lv_istore (lv' := [(4, .int ty), (3, .int ki), (0, .ref rd), (1, .int (nI i)), (2, .int (nI d))]) hx hb d_SchemaReader_readField_16 hl (by decide) rfl (fun ls hl => ?_)
        refine lv_iload hx hb d_SchemaReader_readField_18 (lv_at hl 0 rfl) ?_
        refine lv_iconst (v := (-1)) hx hb d_SchemaReader_readField_20 (by decide) ?_
        refine lv_icmp_eq (tgt := 34) hx hb d_SchemaReader_readField_21 (by decide) (fun c_21 => ?_) (fun c_21 => ?_)
        · -- 21: True
          exact absurd c_21 ne_ty
        · -- 21: False
          refine lv_aload_n hx hb d_SchemaReader_readField_24 rfl (lv_at hl 2 rfl) ?_
          refine z_get hx hb hts (z_lay i_SchemaReader) hown hK hw f4_rd rfl 0 (by decide) (z_in k_220 rfl) (fun _ h9 => h9) rfl d_SchemaReader_readField_25 ?_
          refine z_callV (n := 0) (As := []) (rest := []) ⟨hx, hb, hml, hown, hts⟩ (c_Scanner_takeWord (t := t) l g h4 f4_sc f4_b hn hlen hf (by omega)) (z_in k_250 rfl) (z_in k_8 rfl) (z_in k_247 rfl) (z_in k_248 rfl) (z_in k_249 rfl) (by decide +kernel) ⟨by first | exact Nat.le_of_ble_eq_true rfl | (dsimp only; omega) | omega, by first | exact Nat.le_of_ble_eq_true rfl | (dsimp only; omega) | omega⟩ hK hE hw hA rfl f4_sc rfl hl.1 (Nat.le_of_ble_eq_true rfl) d_SchemaReader_readField_28 ⟨by first | exact Nat.le_of_ble_eq_true rfl | (dsimp only; omega) | omega, by first | exact Nat.le_of_ble_eq_true rfl | (dsimp only; omega) | omega⟩ rfl (fun r9 h9 H locs hp hw => ?_)
          unfold tWd at hp
          by_cases cw : isLet (bt t n (sk t n p2)) = true
          · -- cw True
            rw [if_pos cw] at hp
            obtain ⟨r8, hh5⟩ := hp
            subst r8
            obtain ⟨h5, e8⟩ : ∃ x9, x9 = h9 := ⟨_, rfl⟩
            subst e8
            have f5_rd : h5 rd = some ((7, 0), .inr (8, [.ref sc, .ref q])) := by rw [← hh5]; exact z_keep f4_sc f4_rd (z_t1 (by decide))
            have f5_sc : h5 sc = some ((6, 0), .inr (7, [.ref b, .int (nI n), .int (nI (we t n (sk t n p2))), .int f4, .int (nI (sk t n p2)), .int (nI (we t n (sk t n p2)))])) := by rw [← hh5]; exact z_put_eq
            have f5_b : h5 b = some ((3, 0), .inl (g.2.1 0, len, .inl f)) := by rw [← hh5]; exact z_keep f4_sc f4_b (z_t1 (by decide))
            have k65 : z_K (fun y => y = 6) h h5 := k64.tr (by rw [← hh5]; exact z_K.put f4_sc rfl)
            have kk5 : z_K (fun y => y = 6 ∨ y = r ∨ y = r + 1) h h5 := kk4.tr (by rw [← hh5]; exact z_K.put f4_sc (by first | decide | simp | omega))
            refine W.eq (g2 := F0 m 31 ls [.int 1]) rfl ?_
            refine lv_if_ne (tgt := 36) hx hb d_SchemaReader_readField_31 (by decide) (fun c_31 => ?_) (fun c_31 => ?_)
            · -- 31: True
              refine lv_aload_n hx hb d_SchemaReader_readField_36 rfl (lv_at hl 2 rfl) ?_
              refine lv_iload_n hx hb d_SchemaReader_readField_37 rfl (lv_at hl 3 rfl) ?_
              refine lv_iload hx hb d_SchemaReader_readField_38 (lv_at hl 0 rfl) ?_
              refine lv_iload_n hx hb d_SchemaReader_readField_40 rfl (lv_at hl 4 rfl) ?_
              refine z_callV (n := 3) (As := [.int (nI i), .int ty, .int (nI d)]) (rest := []) ⟨hx, hb, hml, hown, hts⟩ (c_nameStands (t := t) l g h5 f5_rd f5_sc f5_b (hS.k k65 (by omega) (by omega) (by omega)) hn hlen hf (by omega) (by omega) (by omega)) (z_in k_344 rfl) (z_in k_9 rfl) (z_in k_341 rfl) (z_in k_343 rfl) (z_in ks_3 rfl) (by decide +kernel) ⟨by first | exact Nat.le_of_ble_eq_true rfl | (dsimp only; omega) | omega, by first | exact Nat.le_of_ble_eq_true rfl | (dsimp only; omega) | omega⟩ hK hE hw hA rfl f5_rd rfl hl.1 (Nat.le_of_ble_eq_true rfl) d_SchemaReader_readField_41 ⟨by first | exact Nat.le_of_ble_eq_true rfl | (dsimp only; omega) | omega, by first | exact Nat.le_of_ble_eq_true rfl | (dsimp only; omega) | omega⟩ rfl (fun r9 h9 H locs hp hw => ?_)
              obtain ⟨r8, h8⟩ := hp
              subst r8
              subst h8
              refine W.eq (g2 := F0 m 44 ls [.int (zb (nmSt S t (nI i) ty d (sk t n p2) (we t n (sk t n p2))))]) rfl ?_
              refine lv_if_ne (tgt := 55) hx hb d_SchemaReader_readField_44 (by decide) (fun c_44 => ?_) (fun c_44 => ?_)
              · -- 44: True
                have c_44 : (nmSt S t (nI i) ty d (sk t n p2) (we t n (sk t n p2))) = true := zb_t c_44
                obtain ⟨st1, st2, st3, st4⟩ := nmSt_ok c_44
                have hM1 : S.1 + 1 ≤ rSz (fieldR GR t n p S (nI i) d) := by
                  unfold fieldR; rw [hk1]; dsimp only; rw [hk2]; dsimp only; rw [if_pos cw, if_pos c_44]
                  split
                  · exact (hGo (we t n (sk t n p2)) (addF S ki ty (nI i) (nmL t (sk t n p2) (we t n (sk t n p2)))) S.1 (show S.1 + 1 ≤ 128 by omega)).1
                  · unfold sgn; split <;> exact Nat.le_refl _
                refine lv_aload_n hx hb d_SchemaReader_readField_55 rfl (lv_at hl 2 rfl) ?_
                refine z_get hx hb hts (z_lay i_SchemaReader) hown hK hw f5_rd rfl 1 (by decide) (z_in k_221 rfl) (fun _ h9 => h9) rfl d_SchemaReader_readField_56 ?_
                refine lv_iload_n hx hb d_SchemaReader_readField_59 rfl (lv_at hl 1 rfl) ?_
                refine lv_iload hx hb d_SchemaReader_readField_60 (lv_at hl 0 rfl) ?_
                refine lv_iload_n hx hb d_SchemaReader_readField_62 rfl (lv_at hl 3 rfl) ?_
                refine lv_aload_n hx hb d_SchemaReader_readField_63 rfl (lv_at hl 2 rfl) ?_
                refine z_get hx hb hts (z_lay i_SchemaReader) hown hK hw f5_rd rfl 0 (by decide) (z_in k_220 rfl) (fun _ h9 => h9) rfl d_SchemaReader_readField_64 ?_
                refine lv_aload_n hx hb d_SchemaReader_readField_67 rfl (lv_at hl 2 rfl) ?_
                refine z_get hx hb hts (z_lay i_SchemaReader) hown hK hw f5_rd rfl 0 (by decide) (z_in k_220 rfl) (fun _ h9 => h9) rfl d_SchemaReader_readField_68 ?_
                refine z_getN hx hb hts (z_lay i_Scanner) hown hK hw f5_sc rfl 4 (by decide) hE.nest (z_inN k_195 rfl) (fun _ h9 => h9) rfl d_SchemaReader_readField_71 ?_
                refine lv_aload_n hx hb d_SchemaReader_readField_74 rfl (lv_at hl 2 rfl) ?_
                refine z_get hx hb hts (z_lay i_SchemaReader) hown hK hw f5_rd rfl 0 (by decide) (z_in k_220 rfl) (fun _ h9 => h9) rfl d_SchemaReader_readField_75 ?_
                refine z_getN hx hb hts (z_lay i_Scanner) hown hK hw f5_sc rfl 5 (by decide) hE.nest (z_inN k_198 rfl) (fun _ h9 => h9) rfl d_SchemaReader_readField_78 ?_
                refine z_callV (n := 2) (As := [.int (nI (sk t n p2)), .int (nI (we t n (sk t n p2)))]) (rest := [.int (nI i), .int ty, .int ki, .ref q]) ⟨hx, hb, hml, hown, hts⟩ (c_Scanner_copy (t := t) (tg := (r + 2, S.1)) l g h5 f5_sc f5_b hn (by omega) (by omega) (by omega) (by omega) hfb) (z_in k_365 rfl) (z_in k_8 rfl) (z_in k_362 rfl) (z_in k_363 rfl) (z_in k_364 rfl) (by decide +kernel) ⟨by first | exact Nat.le_of_ble_eq_true rfl | (dsimp only; omega) | omega, by first | exact Nat.le_of_ble_eq_true rfl | (dsimp only; omega) | omega⟩ hK hE hw hA rfl f5_sc rfl hl.1 (Nat.le_of_ble_eq_true rfl) d_SchemaReader_readField_81 ⟨by first | exact Nat.le_of_ble_eq_true rfl | (dsimp only; omega) | omega, by first | exact Nat.le_of_ble_eq_true rfl | (dsimp only; omega) | omega⟩ rfl (fun r9 h9 H locs hp hw => ?_)
                obtain ⟨nq, fn, r8, n_nq, e9, hh6⟩ := hp
                subst r8
                obtain ⟨h6, e8⟩ : ∃ x9, x9 = h9 := ⟨_, rfl⟩
                subst e8
                have ne_rd_nq : rd ≠ nq := fun z => by have z2 := f5_rd; rw [z, n_nq] at z2; cases z2
                have ne_sc_nq : sc ≠ nq := fun z => by have z2 := f5_sc; rw [z, n_nq] at z2; cases z2
                have ne_b_nq : b ≠ nq := fun z => by have z2 := f5_b; rw [z, n_nq] at z2; cases z2
                have f6_rd : h6 rd = some ((7, 0), .inr (8, [.ref sc, .ref q])) := by rw [← hh6]; exact z_keepN n_nq f5_rd
                have f6_sc : h6 sc = some ((6, 0), .inr (7, [.ref b, .int (nI n), .int (nI (we t n (sk t n p2))), .int f4, .int (nI (sk t n p2)), .int (nI (we t n (sk t n p2)))])) := by rw [← hh6]; exact z_keepN n_nq f5_sc
                have f6_b : h6 b = some ((3, 0), .inl (g.2.1 0, len, .inl f)) := by rw [← hh6]; exact z_keepN n_nq f5_b
                have f6_nq : h6 nq = some ((r + 2, S.1), .inl (g.2.1 0, (we t n (sk t n p2)) - (sk t n p2), .inl fn)) := by rw [← hh6]; exact z_put_eq
                have kk6 : z_K (fun y => y = 6 ∨ y = r ∨ y = r + 1) h h6 := kk5.tr (by rw [← hh6]; exact z_K.new n_nq)
                have k6q : z_K (fun y => y = 6) h h6 := k65.tr (by rw [← hh6]; exact z_K.new n_nq)
                refine W.eq (g2 := F0 m 84 ls [.ref nq, .int (nI i), .int ty, .int ki, .ref q]) rfl ?_
                have hS84 := hS.k k6q (by omega) (by omega) (by omega)
                have hq84 := hS84.1
                have nq9 : h6 nq = some ((r + 2, S.1), .inl (g.2.1 0, (nmL t (sk t n p2) (we t n (sk t n p2))).length, .inl fn)) := by rw [nmL_len]; exact f6_nq
                refine z_callV (n := 4) (As := [.int ki, .int ty, .int (nI i), .ref nq]) (rest := []) ⟨hx, hb, hml, hown, hts⟩ (c_Schema_append (nm := nmL t (sk t n p2) (we t n (sk t n p2))) (fn := fn) l g h6 nq9 hS84 hg (by omega) st3 ⟨by rw [nmL_len]; omega, fun k hk => by rw [nmL_len] at hk; rw [nmL_get t hk, e9 k hk]; refine ⟨wdN_lt (weR_wd t (n - sk t n p2) (sk t n p2) _ (by omega) (show _ < we t n (sk t n p2) by omega)), ?_⟩; exact (hf (sk t n p2 + k) (by omega)).2⟩ hi) (z_in k_392 rfl) (z_in k_4 rfl) (z_in k_389 rfl) (z_in k_390 rfl) (z_in k_391 rfl) (by decide +kernel) ⟨by first | exact Nat.le_of_ble_eq_true rfl | (dsimp only; omega) | omega, by first | exact Nat.le_of_ble_eq_true rfl | (dsimp only; omega) | omega⟩ hK hE hw hA rfl hq84 rfl hl.1 (Nat.le_of_ble_eq_true rfl) d_SchemaReader_readField_84 ⟨by first | exact Nat.le_of_ble_eq_true rfl | (dsimp only; omega) | omega, by first | exact Nat.le_of_ble_eq_true rfl | (dsimp only; omega) | omega⟩ rfl (fun r9 h9 H locs hp hw => ?_)
                obtain ⟨fdd, r8, n_fdd, hS8, kt8⟩ := hp
                subst r8
                obtain ⟨h7, e8⟩ : ∃ x9, x9 = h9 := ⟨_, rfl⟩
                subst e8
                have g7_rd : h7 rd = some ((7, 0), .inr (8, [.ref sc, .ref q])) := kt8 _ _ _ f6_rd (by simp; omega)
                have g7_sc : h7 sc = some ((6, 0), .inr (7, [.ref b, .int (nI n), .int (nI (we t n (sk t n p2))), .int f4, .int (nI (sk t n p2)), .int (nI (we t n (sk t n p2)))])) := kt8 _ _ _ f6_sc (by simp; omega)
                have g7_b : h7 b = some ((3, 0), .inl (g.2.1 0, len, .inl f)) := kt8 _ _ _ f6_b (by simp; omega)
                have kk7 : z_K (fun y => y = 6 ∨ y = r ∨ y = r + 1) h h7 := kk6.tr (kt8.K (fun t z => by rcases z with z | z | z | z | z <;> simp [z]))
                obtain ⟨Sn, eSn⟩ : ∃ x9, x9 = addF S ki ty (nI i) (nmL t (sk t n p2) (we t n (sk t n p2))) := ⟨_, rfl⟩
                rw [← eSn] at hS8
                have sz8 : Sn.1 = S.1 + 1 := by rw [eSn]; rfl
                have gO8 : grOK Sn := by rw [eSn]; exact grOK_add hg (Or.inr ⟨i, hi, rfl⟩)
                have sA8 : SchAt g h7 r q Sn := ⟨_, _, _, _, _, _, _, hS8⟩
                have k6n : z_K (fun y => y = 6) h7 h7 := z_K.rf
                refine W.eq (g2 := F0 m 87 ls [.int (nI S.1)]) rfl ?_
                refine lv_istore (lv' := [(5, .int (nI S.1)), (4, .int ty), (3, .int ki), (0, .ref rd), (1, .int (nI i)), (2, .int (nI d))]) hx hb d_SchemaReader_readField_87 hl (by decide) rfl (fun ls hl => ?_)
                refine lv_iload hx hb d_SchemaReader_readField_89 (lv_at hl 1 rfl) ?_
                refine lv_iconst (v := 4) hx hb d_SchemaReader_readField_91 (by decide) ?_
                refine lv_icmp_ne (tgt := 107) hx hb d_SchemaReader_readField_92 (by decide) (fun c_92 => ?_) (fun c_92 => ?_)
                · -- 92: True
                  have ske := sk_le (t := t) (show we t n (sk t n p2) ≤ n by omega)
                  refine lv_aload_n hx hb d_SchemaReader_readField_107 rfl (lv_at hl 3 rfl) ?_
                  refine z_get hx hb hts (z_lay i_SchemaReader) hown hK hw g7_rd rfl 0 (by decide) (z_in k_220 rfl) (fun _ h9 => h9) rfl d_SchemaReader_readField_108 ?_
                  refine lv_bipush (v := 59) hx hb d_SchemaReader_readField_111 (by decide) ?_
                  refine z_callV (n := 1) (As := [.int 59]) (rest := []) ⟨hx, hb, hml, hown, hts⟩ (c_Scanner_takeSign (t := t) l g h7 g7_sc g7_b hn hlen hf (by omega)) (z_in k_456 rfl) (z_in k_8 rfl) (z_in k_453 rfl) (z_in k_454 rfl) (z_in k_455 rfl) (by decide +kernel) ⟨by first | exact Nat.le_of_ble_eq_true rfl | (dsimp only; omega) | omega, by first | exact Nat.le_of_ble_eq_true rfl | (dsimp only; omega) | omega⟩ hK hE hw hA rfl g7_sc rfl hl.1 (Nat.le_of_ble_eq_true rfl) d_SchemaReader_readField_113 ⟨by first | exact Nat.le_of_ble_eq_true rfl | (dsimp only; omega) | omega, by first | exact Nat.le_of_ble_eq_true rfl | (dsimp only; omega) | omega⟩ rfl (fun r9 h9 H locs hp hw => ?_)
                  unfold tSg at hp
                  by_cases ts : bt t n (sk t n (we t n (sk t n p2))) = 59
                  · -- ts True
                    rw [if_pos ts] at hp
                    obtain ⟨r8, hh8⟩ := hp
                    subst r8
                    obtain ⟨h8, e8⟩ : ∃ x9, x9 = h9 := ⟨_, rfl⟩
                    subst e8
                    have f8_rd : h8 rd = some ((7, 0), .inr (8, [.ref sc, .ref q])) := by rw [← hh8]; exact z_keep g7_sc g7_rd (z_t1 (by decide))
                    have f8_sc : h8 sc = some ((6, 0), .inr (7, [.ref b, .int (nI n), .int (nI (sk t n (we t n (sk t n p2)) + 1)), .int f4, .int (nI (sk t n p2)), .int (nI (we t n (sk t n p2)))])) := by rw [← hh8]; exact z_put_eq
                    have f8_b : h8 b = some ((3, 0), .inl (g.2.1 0, len, .inl f)) := by rw [← hh8]; exact z_keep g7_sc g7_b (z_t1 (by decide))
                    have kk8 : z_K (fun y => y = 6 ∨ y = r ∨ y = r + 1) h h8 := kk7.tr (by rw [← hh8]; exact z_K.put g7_sc (by first | decide | simp | omega))
                    refine W.eq (g2 := F0 m 116 ls [.int 1]) rfl ?_
                    have eW : fieldR GR t n p S (nI i) d = .inr (sk t n (we t n (sk t n p2)) + 1, Sn) := by unfold fieldR; rw [hk1]; dsimp only; rw [hk2]; dsimp only; rw [if_pos cw, if_pos c_44, if_neg c_92, ← eSn]; unfold sgn; rw [if_pos ts]
                    have eZ : rSz (fieldR GR t n p S (nI i) d) = Sn.1 := by rw [eW]; rfl
                    exact z_zret hx hb hr rfl hlocks hw (by rw [eW]; exact ⟨kk8, rfl, ⟨_, _, _, f8_sc⟩, by have z := bt_lt ts; omega, sA8.k (R := fun y => y = 6) (by rw [← hh8]; exact z_K.put g7_sc rfl) (by omega) (by omega) (by omega), gO8⟩) (by first | exact Nat.le_of_ble_eq_true rfl | (dsimp only; omega) | omega) (by first | exact Nat.le_of_ble_eq_true rfl | (dsimp only; omega) | omega) d_SchemaReader_readField_116
                  · -- ts False
                    rw [if_neg ts] at hp
                    obtain ⟨r8, hh9⟩ := hp
                    subst r8
                    obtain ⟨h9, e8⟩ : ∃ x9, x9 = h9 := ⟨_, rfl⟩
                    subst e8
                    have f9_rd : h9 rd = some ((7, 0), .inr (8, [.ref sc, .ref q])) := by rw [← hh9]; exact z_keep g7_sc g7_rd (z_t1 (by decide))
                    have f9_sc : h9 sc = some ((6, 0), .inr (7, [.ref b, .int (nI n), .int (nI (sk t n (we t n (sk t n p2)))), .int (nI (sk t n (we t n (sk t n p2)))), .int (nI (sk t n p2)), .int (nI (we t n (sk t n p2)))])) := by rw [← hh9]; exact z_put_eq
                    have f9_b : h9 b = some ((3, 0), .inl (g.2.1 0, len, .inl f)) := by rw [← hh9]; exact z_keep g7_sc g7_b (z_t1 (by decide))
                    have kk9 : z_K (fun y => y = 6 ∨ y = r ∨ y = r + 1) h h9 := kk7.tr (by rw [← hh9]; exact z_K.put g7_sc (by first | decide | simp | omega))
                    refine W.eq (g2 := F0 m 116 ls [.int 0]) rfl ?_
                    have eW : fieldR GR t n p S (nI i) d = .inl (sk t n (we t n (sk t n p2)), Sn.1) := by unfold fieldR; rw [hk1]; dsimp only; rw [hk2]; dsimp only; rw [if_pos cw, if_pos c_44, if_neg c_92, ← eSn]; unfold sgn; rw [if_neg ts]
                    have eZ : rSz (fieldR GR t n p S (nI i) d) = Sn.1 := by rw [eW]; rfl
                    exact z_zret hx hb hr rfl hlocks hw (by rw [eW]; exact ⟨kk9, rfl, _, _, _, _, f9_sc, rfl⟩) (by first | exact Nat.le_of_ble_eq_true rfl | (dsimp only; omega) | omega) (by first | exact Nat.le_of_ble_eq_true rfl | (dsimp only; omega) | omega) d_SchemaReader_readField_116
                · -- 92: False
                  have eM : fieldR GR t n p S (nI i) d = GR (we t n (sk t n p2)) Sn S.1 := by unfold fieldR; rw [hk1]; dsimp only; rw [hk2]; dsimp only; rw [if_pos cw, if_pos c_44, if_pos c_92, ← eSn]
                  have okG : Sn.1 ≤ rSz (GR (we t n (sk t n p2)) Sn S.1) ∧ rSz (GR (we t n (sk t n p2)) Sn S.1) ≤ 128 := hGo (we t n (sk t n p2)) Sn S.1 (by omega)
                  have eMz : rSz (fieldR GR t n p S (nI i) d) = rSz (GR (we t n (sk t n p2)) Sn S.1) := by rw [eM]
                  refine lv_aload_n hx hb d_SchemaReader_readField_95 rfl (lv_at hl 3 rfl) ?_
                  refine lv_iload hx hb d_SchemaReader_readField_96 (lv_at hl 0 rfl) ?_
                  refine lv_iload_n hx hb d_SchemaReader_readField_98 rfl (lv_at hl 5 rfl) ?_
                  refine lv_iconst (v := 1) hx hb d_SchemaReader_readField_99 (by decide) ?_
                  refine lv_iadd hx hb d_SchemaReader_readField_100 ?_
                  refine z_topi (y := nI (d + 1)) (nI_add d 1) ?_
                  refine z_callV (n := 2) (As := [.int (nI S.1), .int (nI (d + 1))]) (rest := []) ⟨hx, hb, hml, hown, hts⟩ (hG (st4 c_92) h7 (we t n (sk t n p2)) Sn S.1 _ _ _ g7_rd g7_sc g7_b (by omega) sA8 gO8 (by omega) (by omega)) (z_in k_452 rfl) (z_in k_9 rfl) (z_in k_449 rfl) (z_in k_451 rfl) (z_in ks_5 rfl) (by decide +kernel) ⟨by first | exact Nat.le_of_ble_eq_true rfl | (dsimp only; omega) | omega, by first | exact Nat.le_of_ble_eq_true rfl | (dsimp only; omega) | omega⟩ hK hE hw hA rfl g7_rd rfl hl.1 (Nat.le_of_ble_eq_true rfl) d_SchemaReader_readField_101 ⟨by first | exact Nat.le_of_ble_eq_true rfl | (dsimp only; omega) | omega, by first | exact Nat.le_of_ble_eq_true rfl | (dsimp only; omega) | omega⟩ rfl (fun r9 h9 H locs hp hw => ?_)
                  obtain ⟨kk8, hp⟩ := hp
                  rcases hR8 : GR (we t n (sk t n p2)) Sn S.1 with ⟨F8, m8⟩ | ⟨p8, S8⟩
                  · -- group False
                    rw [hR8] at hp
                    have hz7 : rSz (.inl (F8, m8) : Res) = m8 := rfl
                    obtain ⟨r8, pf8, f8, w8, d8, e8, g8⟩ := hp
                    subst r8
                    obtain ⟨h10, e7⟩ : ∃ x9, x9 = h9 := ⟨_, rfl⟩
                    subst e7
                    have kk10 : z_K (fun y => y = 6 ∨ y = r ∨ y = r + 1) h h10 := kk7.tr kk8
                    refine W.eq (g2 := F0 m 104 ls [.int 0]) rfl ?_
                    refine lv_goto (tgt := 116) hx hb d_SchemaReader_readField_104 (by decide) ?_
                    have eW : fieldR GR t n p S (nI i) d = .inl (F8, m8) := by unfold fieldR; rw [hk1]; dsimp only; rw [hk2]; dsimp only; rw [if_pos cw, if_pos c_44, if_pos c_92, ← eSn, hR8]
                    have eZ : rSz (fieldR GR t n p S (nI i) d) = m8 := by rw [eW]; rfl
                    exact z_zret hx hb hr rfl hlocks hw (by rw [eW]; exact ⟨kk10, rfl, _, _, _, _, e8, g8⟩) (by first | exact Nat.le_of_ble_eq_true rfl | (dsimp only; omega) | omega) (by first | exact Nat.le_of_ble_eq_true rfl | (dsimp only; omega) | omega) d_SchemaReader_readField_116
                  · -- group True
                    rw [hR8] at hp
                    have hz7 : rSz (.inr (p8, S8) : Res) = S8.1 := rfl
                    obtain ⟨r8, ⟨f8, w8, d8, e8⟩, le8, sA9, gO9⟩ := hp
                    subst r8
                    obtain ⟨h11, e7⟩ : ∃ x9, x9 = h9 := ⟨_, rfl⟩
                    subst e7
                    have kk11 : z_K (fun y => y = 6 ∨ y = r ∨ y = r + 1) h h11 := kk7.tr kk8
                    refine W.eq (g2 := F0 m 104 ls [.int 1]) rfl ?_
                    refine lv_goto (tgt := 116) hx hb d_SchemaReader_readField_104 (by decide) ?_
                    have eW : fieldR GR t n p S (nI i) d = .inr (p8, S8) := by unfold fieldR; rw [hk1]; dsimp only; rw [hk2]; dsimp only; rw [if_pos cw, if_pos c_44, if_pos c_92, ← eSn, hR8]
                    have eZ : rSz (fieldR GR t n p S (nI i) d) = S8.1 := by rw [eW]; rfl
                    exact z_zret hx hb hr rfl hlocks hw (by rw [eW]; exact ⟨kk11, rfl, ⟨_, _, _, e8⟩, le8, sA9, gO9⟩) (by first | exact Nat.le_of_ble_eq_true rfl | (dsimp only; omega) | omega) (by first | exact Nat.le_of_ble_eq_true rfl | (dsimp only; omega) | omega) d_SchemaReader_readField_116
              · -- 44: False
                have c_44 : (nmSt S t (nI i) ty d (sk t n p2) (we t n (sk t n p2))) = false := zb_f c_44
                refine lv_aload_n hx hb d_SchemaReader_readField_47 rfl (lv_at hl 2 rfl) ?_
                refine z_get hx hb hts (z_lay i_SchemaReader) hown hK hw f5_rd rfl 0 (by decide) (z_in k_220 rfl) (fun _ h9 => h9) rfl d_SchemaReader_readField_48 ?_
                refine z_callV (n := 0) (As := []) (rest := []) ⟨hx, hb, hml, hown, hts⟩ (c_Scanner_failAtWord l g h5 f5_sc) (z_in k_331 rfl) (z_in k_8 rfl) (z_in k_328 rfl) (z_in k_329 rfl) (z_in k_330 rfl) (by decide +kernel) ⟨by first | exact Nat.le_of_ble_eq_true rfl | (dsimp only; omega) | omega, by first | exact Nat.le_of_ble_eq_true rfl | (dsimp only; omega) | omega⟩ hK hE hw hA rfl f5_sc rfl hl.1 (Nat.le_of_ble_eq_true rfl) d_SchemaReader_readField_51 ⟨by first | exact Nat.le_of_ble_eq_true rfl | (dsimp only; omega) | omega, by first | exact Nat.le_of_ble_eq_true rfl | (dsimp only; omega) | omega⟩ rfl (fun r9 h9 H locs hp hw => ?_)
                obtain ⟨r8, hh12⟩ := hp
                subst r8
                obtain ⟨h12, e8⟩ : ∃ x9, x9 = h9 := ⟨_, rfl⟩
                subst e8
                have f12_rd : h12 rd = some ((7, 0), .inr (8, [.ref sc, .ref q])) := by rw [← hh12]; exact z_keep f5_sc f5_rd (z_t1 (by decide))
                have f12_sc : h12 sc = some ((6, 0), .inr (7, [.ref b, .int (nI n), .int (nI (we t n (sk t n p2))), .int (nI (sk t n p2)), .int (nI (sk t n p2)), .int (nI (we t n (sk t n p2)))])) := by rw [← hh12]; exact z_put_eq
                have f12_b : h12 b = some ((3, 0), .inl (g.2.1 0, len, .inl f)) := by rw [← hh12]; exact z_keep f5_sc f5_b (z_t1 (by decide))
                have k612 : z_K (fun y => y = 6) h h12 := k65.tr (by rw [← hh12]; exact z_K.put f5_sc rfl)
                have kk12 : z_K (fun y => y = 6 ∨ y = r ∨ y = r + 1) h h12 := kk5.tr (by rw [← hh12]; exact z_K.put f5_sc (by first | decide | simp | omega))
                refine W.eq (g2 := F0 m 54 ls [.int 0]) rfl ?_
                have eW : fieldR GR t n p S (nI i) d = .inl (sk t n p2, S.1) := by unfold fieldR; rw [hk1]; dsimp only; rw [hk2]; dsimp only; rw [if_pos cw, if_neg (by rw [c_44]; decide)]
                have eZ : rSz (fieldR GR t n p S (nI i) d) = S.1 := by rw [eW]; rfl
                exact z_zret hx hb hr rfl hlocks hw (by rw [eW]; exact ⟨kk12, rfl, _, _, _, _, f12_sc, rfl⟩) (by first | exact Nat.le_of_ble_eq_true rfl | (dsimp only; omega) | omega) (by first | exact Nat.le_of_ble_eq_true rfl | (dsimp only; omega) | omega) d_SchemaReader_readField_54
            · -- 31: False
              exact absurd c_31 (by decide)
          · -- cw False
            rw [if_neg cw] at hp
            obtain ⟨r8, hh13⟩ := hp
            subst r8
            obtain ⟨h13, e8⟩ : ∃ x9, x9 = h9 := ⟨_, rfl⟩
            subst e8
            have f13_rd : h13 rd = some ((7, 0), .inr (8, [.ref sc, .ref q])) := by rw [← hh13]; exact z_keep f4_sc f4_rd (z_t1 (by decide))
            have f13_sc : h13 sc = some ((6, 0), .inr (7, [.ref b, .int (nI n), .int (nI (sk t n p2)), .int (nI (sk t n p2)), .int w4, .int d4])) := by rw [← hh13]; exact z_put_eq
            have f13_b : h13 b = some ((3, 0), .inl (g.2.1 0, len, .inl f)) := by rw [← hh13]; exact z_keep f4_sc f4_b (z_t1 (by decide))
            have k613 : z_K (fun y => y = 6) h h13 := k64.tr (by rw [← hh13]; exact z_K.put f4_sc rfl)
            have kk13 : z_K (fun y => y = 6 ∨ y = r ∨ y = r + 1) h h13 := kk4.tr (by rw [← hh13]; exact z_K.put f4_sc (by first | decide | simp | omega))
            refine W.eq (g2 := F0 m 31 ls [.int 0]) rfl ?_
            refine lv_if_ne (tgt := 36) hx hb d_SchemaReader_readField_31 (by decide) (fun c_31 => ?_) (fun c_31 => ?_)
            · -- 31: True
              exact absurd (by decide) c_31
            · -- 31: False
              refine lv_iconst (v := 0) hx hb d_SchemaReader_readField_34 (by decide) ?_
              have eW : fieldR GR t n p S (nI i) d = .inl (sk t n p2, S.1) := by unfold fieldR; rw [hk1]; dsimp only; rw [hk2]; dsimp only; rw [if_neg cw]
              have eZ : rSz (fieldR GR t n p S (nI i) d) = S.1 := by rw [eW]; rfl
              exact z_zret hx hb hr rfl hlocks hw (by rw [eW]; exact ⟨kk13, rfl, _, _, _, _, f13_sc, rfl⟩) (by first | exact Nat.le_of_ble_eq_true rfl | (dsimp only; omega) | omega) (by first | exact Nat.le_of_ble_eq_true rfl | (dsimp only; omega) | omega) d_SchemaReader_readField_35
    · -- 7: False
      exact absurd c_7 ne_ki

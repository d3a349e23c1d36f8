set_option maxHeartbeats 4000000 in
set_option maxRecDepth 100000 in
theorem c_readValue_of (l : Launch) (g : z_G) (h : z_H) {r q : Nat} {S : Sch} {fa9 ca : Nat} {adS na : Nat → Nat} {ff : Nat → Option Nat} {cf : Nat → Int32} {nf : Nat → Nat → Int32} {rd sc mr w tr b len n p pi fi d fM lM : Nat} {f : Nat → Int32} {fa ws wd : Int32} {nu9 : Int64} {t : Nat → Nat} {R : Rec} {MR : Nat → Rec → Nat → Nat → RRes} (hrd : h rd = some ((8, 0), .inr (9, [.ref sc, .ref q, .ref w, .ref tr, .long nu9]))) (hsc : h sc = some ((6, 0), .inr (7, [.ref b, .int (nI n), .int (nI p), .int fa, .int ws, .int wd]))) (hb0 : h b = some ((3, 0), .inl (g.2.1 0, len, .inl f))) (hS : SchP g h r q S fa9 ca adS na ff cf nf) (hn : n ≤ len) (hlen : len < 2 ^ 31) (hf : ∀ k, k < n → t k < 256 ∧ f k = sb_b (t k)) (hp : p ≤ n) (hl29 : len < 2 ^ 29) (hn4 : n ≤ 4000) (hm : mr < 60) (hm2 : 12 ≤ mr) (hr0 : 100 ≤ r) (hTR : trAt g h tr []) (hNA : NdAt g h mr w S R) (hpa : paOK R) (hpi9 : pi < R.1) (hfi9 : fi < S.1) (hc2 : 2 * R.1 + 1 ≤ p) (htb0 : tbR R ≤ p) (hd9 : d < 1000) (hM : ∀ (h : z_H) (p : Nat) (R : Rec) (pi gi : Nat) (fa ws wd : Int32) (nu9 : Int64), SchP g h r q S fa9 ca adS na ff cf nf → h rd = some ((8, 0), .inr (9, [.ref sc, .ref q, .ref w, .ref tr, .long nu9])) → h sc = some ((6, 0), scE b n p fa ws wd) → h b = some ((3, 0), .inl (g.2.1 0, len, .inl f)) → trAt g h tr [] → NdAt g h mr w S R → paOK R → p ≤ n → pi < R.1 → gi < S.1 → 2 * R.1 ≤ p + 2 → tbR R ≤ p → z_C l y_RecordReader_readMembers prog_6_method_2_code 8 (Option.some Jvm.ClassFile.FieldType.boolean) fM lM (2 * ((rrR (MR p R pi gi)).1 - R.1)) (7 * ((rrR (MR p R pi gi)).1 - R.1) + (tbR (rrR (MR p R pi gi)) - tbR R)) g [.ref rd, .int (nI gi), .int (nI pi), .int (nI (d + 1))] h (vlP g (MR p R pi gi) h mr w S rd sc q tr b n)) (hMo : ∀ p R pi gi, rmono R (MR p R pi gi)) : z_C l y_RecordReader_readValue prog_6_method_5_code 6 (Option.some Jvm.ClassFile.FieldType.boolean) (fM + 8) (lM + 200) (2 * ((rrR (valR MR S t n fi pi p R)).1 - R.1)) (7 * ((rrR (valR MR S t n fi pi p R)).1 - R.1) + (tbR (rrR (valR MR S t n fi pi p R)) - tbR R)) g [.ref rd, .ref (adS fi), .int (nI pi), .int (nI d)] h (vlP g (valR MR S t n fi pi p R) h mr w S rd sc q tr b n) := by
  refine z_C.of (by decide) (Nat.le_of_ble_eq_true rfl) (fun pg en s m below meth cd A ls hx hb hml hr hts hown hlocks hnm hK hE hA hw hl => ?_)
  have hl : lv_has ls 6 [(0, .ref rd), (1, .ref (adS fi)), (2, .int (nI pi)), (3, .int (nI d))] := hl
  have sk1 := sk_le (t := t) hp
  have sk2 := sk_ge t n p
  obtain ⟨ra, ad, tx, rf, tf, hN⟩ := hNA
  obtain ⟨ft, htr, hft, -⟩ := hTR
  have hfdc := (hS.2.2.2.1 fi hfi9).2
  have hs8 : S.1 ≤ 128 := hS.2.2.2.2.2.2.2.1
  have htbd : tbC R.2 R.1 ≤ p := htb0
  have htbe : tbR R = tbC R.2 R.1 := rfl
  have oM0 := hMo (sk t n p) (addN R (nI fi, nI pi, 0, [])) R.1 fi
  have oM1 : (addN R (nI fi, nI pi, 0, [])).1 ≤ (rrR (MR (sk t n p) (addN R (nI fi, nI pi, 0, [])) R.1 fi)).1 := oM0.1
  have oM2 : tbR (addN R (nI fi, nI pi, 0, [])) ≤ tbR (rrR (MR (sk t n p) (addN R (nI fi, nI pi, 0, [])) R.1 fi)) := oM0.2
  have kk0 : z_K (fun y => y = 6 ∨ y = 8 ∨ y = 10) h h := z_K.rf
  refine lv_aload_n hx hb d_RecordReader_readValue_0 rfl (lv_at hl 0 rfl) ?_
  refine z_get hx hb hts (z_lay i_RecordReader) hown hK hw hrd rfl 0 (by decide) (z_in k_502 rfl) (fun _ h9 => h9) rfl d_RecordReader_readValue_1 ?_
  refine z_callV (n := 0) (As := []) (rest := []) ⟨hx, hb, hml, hown, hts⟩ (c_Scanner_next l g h hsc hb0 hn hlen hf (by omega)) (z_in k_234 rfl) (z_in k_8 rfl) (z_in k_524 rfl) (z_in k_232 rfl) (z_in k_233 rfl) (by decide +kernel) ⟨by first | exact Nat.le_of_ble_eq_true rfl | (dsimp only; omega) | omega, by first | exact Nat.le_of_ble_eq_true rfl | (dsimp only; omega) | omega⟩ hK hE hw hA rfl hsc rfl hl.1 (Nat.le_of_ble_eq_true rfl) d_RecordReader_readValue_4 ⟨by first | exact Nat.le_of_ble_eq_true rfl | (dsimp only; omega) | omega, by first | exact Nat.le_of_ble_eq_true rfl | (dsimp only; omega) | omega⟩ rfl (fun r9 h9 H locs hp hw => ?_)
  obtain ⟨r8, hh1⟩ := hp
  subst r8
  obtain ⟨h1, e8⟩ : ∃ x9, x9 = h9 := ⟨_, rfl⟩
  subst e8
  have f1_rd : h1 rd = some ((8, 0), .inr (9, [.ref sc, .ref q, .ref w, .ref tr, .long nu9])) := by rw [← hh1]; exact z_keep hsc hrd (z_t1 (by decide))
  have f1_sc : h1 sc = some ((6, 0), .inr (7, [.ref b, .int (nI n), .int (nI (sk t n p)), .int fa, .int ws, .int wd])) := by rw [← hh1]; exact z_put_eq
  have f1_b : h1 b = some ((3, 0), .inl (g.2.1 0, len, .inl f)) := by rw [← hh1]; exact z_keep hsc hb0 (z_t1 (by decide))
  have f1_tr : h1 tr = some ((10, 0), .inl (g.2.1 0, 255, .inl ft)) := by rw [← hh1]; exact z_keep hsc htr (z_t1 (by decide))
  have f1_adS_fi : h1 (adS fi) = some ((r + 1, fi), .inr (4, [.int (nI fi), .int (fKi (S.2 fi)), .int (fTy (S.2 fi)), .int (fGr (S.2 fi)), .ref (na fi), .int (fCo (S.2 fi)), .int (fRe (S.2 fi)), .int (fDe (S.2 fi)), .int (nI (rq S (nI fi)))])) := by rw [← hh1]; exact z_keep hsc hfdc (by first | decide | (refine z_t1 ?_; omega) | (refine z_t2 ?_; omega))
  have kk1 : z_K (fun y => y = 6 ∨ y = 8 ∨ y = 10) h h1 := kk0.tr (by rw [← hh1]; exact z_K.put hsc (by first | decide | simp | omega))
  refine W.eq (g2 := F0 m 7 ls [.int (bt t n (sk t n p))]) rfl ?_
  refine lv_pop hx hb d_RecordReader_readValue_7 rfl ?_
  refine lv_aload_n hx hb d_RecordReader_readValue_8 rfl (lv_at hl 0 rfl) ?_
  refine z_get hx hb hts (z_lay i_RecordReader) hown hK hw f1_rd rfl 0 (by decide) (z_in k_502 rfl) (fun _ h9 => h9) rfl d_RecordReader_readValue_9 ?_
  refine z_getN hx hb hts (z_lay i_Scanner) hown hK hw f1_sc rfl 2 (by decide) hE.nest (z_inN k_192 rfl) (fun _ h9 => h9) rfl d_RecordReader_readValue_12 ?_
  refine lv_istore (lv' := [(4, .int (nI (sk t n p))), (0, .ref rd), (1, .ref (adS fi)), (2, .int (nI pi)), (3, .int (nI d))]) hx hb d_RecordReader_readValue_15 hl (by decide) rfl (fun ls hl => ?_)
  refine lv_aload_n hx hb d_RecordReader_readValue_17 rfl (lv_at hl 2 rfl) ?_
  refine z_getN hx hb hts (z_lay i_Field) hown hK hw f1_adS_fi rfl 2 (by decide) hE.nest (z_inN k_411 rfl) (fun _ h9 => h9) rfl d_RecordReader_readValue_18 ?_
  rcases z_sw (fTy (S.2 fi)) 4 (by decide) with c_21 | ⟨j_21, c_21, d_21⟩
  · refine lv_tableOut (tgt := 182) hx hb d_RecordReader_readValue_21 (by rcases c_21 with z | z <;> first | exact Or.inl (by omega) | exact Or.inr (by omega)) (by decide) ?_
    have ty0 : ¬ fTy (S.2 fi) = nI 0 := i_ne c_21 (by omega) (by omega)
    have ty1 : ¬ fTy (S.2 fi) = nI 1 := i_ne c_21 (by omega) (by omega)
    have ty2 : ¬ fTy (S.2 fi) = nI 2 := i_ne c_21 (by omega) (by omega)
    have ty3 : ¬ fTy (S.2 fi) = nI 3 := i_ne c_21 (by omega) (by omega)
    have eV : valR MR S t n fi pi p R = MR (sk t n p) (addN R (nI fi, nI pi, 0, [])) R.1 fi := by unfold valR; rw [if_neg ty0, if_neg ty1, if_neg ty2, if_neg ty3]
    have eZ1 : (rrR (valR MR S t n fi pi p R)).1 = (rrR (MR (sk t n p) (addN R (nI fi, nI pi, 0, [])) R.1 fi)).1 := by rw [eV]
    have eZ2 : tbR (rrR (valR MR S t n fi pi p R)) = tbR (rrR (MR (sk t n p) (addN R (nI fi, nI pi, 0, [])) R.1 fi)) := by rw [eV]
    have sz0 : (addN R (nI fi, nI pi, 0, [])).1 = R.1 + 1 := rfl
    have tb0 : tbR (addN R (nI fi, nI pi, 0, [])) = tbR R + 0 := tbR_add R _
    refine lv_aload_n hx hb d_RecordReader_readValue_182 rfl (lv_at hl 1 rfl) ?_
    refine lv_lconst (v := 0) hx hb d_RecordReader_readValue_183 (by decide) ?_
    refine z_putf (ty := .long) hx hb hts (z_lay i_RecordReader) t_RecordReader t_RecordReader_ok n_RecordReader hown hK hw f1_rd rfl 4 (by decide) (z_in k_506 rfl) (fun _ h9 => h9) rfl (by decide +kernel) rfl rfl (Nat.le_of_ble_eq_true rfl) d_RecordReader_readValue_184 (fun H locs hw => ?_)
    obtain ⟨h2, hh2⟩ : ∃ x9, z_put h1 rd (8, 0) (.inr (9, [.ref sc, .ref q, .ref w, .ref tr, .long 0])) = x9 := ⟨_, rfl⟩
    have hw : z_S g A s.heap h2 H locs := by rw [← hh2]; exact hw
    have f2_rd : h2 rd = some ((8, 0), .inr (9, [.ref sc, .ref q, .ref w, .ref tr, .long 0])) := by rw [← hh2]; exact z_put_eq
    have f2_sc : h2 sc = some ((6, 0), .inr (7, [.ref b, .int (nI n), .int (nI (sk t n p)), .int fa, .int ws, .int wd])) := by rw [← hh2]; exact z_keep f1_rd f1_sc (z_t1 (by decide))
    have f2_b : h2 b = some ((3, 0), .inl (g.2.1 0, len, .inl f)) := by rw [← hh2]; exact z_keep f1_rd f1_b (z_t1 (by decide))
    have f2_tr : h2 tr = some ((10, 0), .inl (g.2.1 0, 255, .inl ft)) := by rw [← hh2]; exact z_keep f1_rd f1_tr (z_t1 (by decide))
    have f2_adS_fi : h2 (adS fi) = some ((r + 1, fi), .inr (4, [.int (nI fi), .int (fKi (S.2 fi)), .int (fTy (S.2 fi)), .int (fGr (S.2 fi)), .ref (na fi), .int (fCo (S.2 fi)), .int (fRe (S.2 fi)), .int (fDe (S.2 fi)), .int (nI (rq S (nI fi)))])) := by rw [← hh2]; exact z_keep f1_rd f1_adS_fi (by first | decide | (refine z_t1 ?_; omega) | (refine z_t2 ?_; omega))
    have kk2 : z_K (fun y => y = 6 ∨ y = 8 ∨ y = 10) h h2 := kk1.tr (by rw [← hh2]; exact z_K.put f1_rd (by first | decide | simp | omega))
    refine lv_aload_n hx hb d_RecordReader_readValue_187 rfl (lv_at hl 1 rfl) ?_
    refine lv_aload_n hx hb d_RecordReader_readValue_188 rfl (lv_at hl 2 rfl) ?_
    refine lv_iload_n hx hb d_RecordReader_readValue_189 rfl (lv_at hl 3 rfl) ?_
    refine z_nob (ref := "") hx hb hE hw hown (z_inN k_551 rfl) d_RecordReader_readValue_190 ?_
    refine lv_iload hx hb d_RecordReader_readValue_193 (lv_at hl 0 rfl) ?_
    refine z_callV (n := 4) (As := [.ref (adS fi), .int (nI pi), .ref (g.2.2 0), .int (nI (sk t n p))]) (rest := []) ⟨hx, hb, hml, hown, hts⟩ (c_keep0 (S := S) (nu9 := 0) l g h2 f2_rd f2_adS_fi (hN.k kk2 (by omega) (by omega) (by omega)) hpa hpi9 (by omega) (by omega) hm (by omega) rfl (by omega)) (z_in k_555 rfl) (z_in k_18 rfl) (z_in k_552 rfl) (z_in k_554 rfl) (z_in ks_10 rfl) (by decide +kernel) ⟨by first | exact Nat.le_of_ble_eq_true rfl | (dsimp only; omega) | omega, by first | exact Nat.le_of_ble_eq_true rfl | (dsimp only; omega) | omega⟩ hK hE hw hA rfl f2_rd rfl hl.1 (Nat.le_of_ble_eq_true rfl) d_RecordReader_readValue_195 ⟨by first | exact Nat.le_of_ble_eq_true rfl | (dsimp only; omega) | omega, by first | exact Nat.le_of_ble_eq_true rfl | (dsimp only; omega) | omega⟩ rfl (fun r9 h9 H locs hp hw => ?_)
    obtain ⟨nn, r8, n8, pa8, k8⟩ := hp
    subst r8
    obtain ⟨h3, e7⟩ : ∃ x9, x9 = h9 := ⟨_, rfl⟩
    subst e7
    have g3_rd : h3 rd = some ((8, 0), .inr (9, [.ref sc, .ref q, .ref w, .ref tr, .long 0])) := k8 _ _ _ f2_rd (by simp; omega)
    have g3_sc : h3 sc = some ((6, 0), .inr (7, [.ref b, .int (nI n), .int (nI (sk t n p)), .int fa, .int ws, .int wd])) := k8 _ _ _ f2_sc (by simp; omega)
    have g3_b : h3 b = some ((3, 0), .inl (g.2.1 0, len, .inl f)) := k8 _ _ _ f2_b (by simp; omega)
    have g3_tr : h3 tr = some ((10, 0), .inl (g.2.1 0, 255, .inl ft)) := k8 _ _ _ f2_tr (by simp; omega)
    have g3_adS_fi : h3 (adS fi) = some ((r + 1, fi), .inr (4, [.int (nI fi), .int (fKi (S.2 fi)), .int (fTy (S.2 fi)), .int (fGr (S.2 fi)), .ref (na fi), .int (fCo (S.2 fi)), .int (fRe (S.2 fi)), .int (fDe (S.2 fi)), .int (nI (rq S (nI fi)))])) := k8 _ _ _ f2_adS_fi (by simp; omega)
    have kkF : z_K (fun y => y = 6 ∨ y = 8 ∨ y = 10 ∨ y = mr ∨ y = mr + 1) h h3 := (kk2.mono (fun y z => by rcases z with z | z | z <;> simp [z])).tr (k8.K (fun t z => by rcases z with z | z | z | z <;> simp [z]))
    have tb8 := tbR_add R (nI fi, nI pi, 0, [])
    dsimp only [ndTx] at tb8
    simp only [List.length_nil] at tb8
    have sz8 : (addN R (nI fi, nI pi, 0, [])).1 = R.1 + 1 := rfl
    have hw8 := n8.1
    refine W.eq (g2 := F0 m 198 ls [.int 1]) rfl ?_
    refine lv_if_eq (tgt := 228) hx hb d_RecordReader_readValue_198 (by decide) (fun c_198 => ?_) (fun c_198 => ?_)
    · -- 198: True
      exact absurd c_198 (by decide)
    · -- 198: False
      refine lv_aload_n hx hb d_RecordReader_readValue_201 rfl (lv_at hl 1 rfl) ?_
      refine lv_aload_n hx hb d_RecordReader_readValue_202 rfl (lv_at hl 2 rfl) ?_
      refine z_getN hx hb hts (z_lay i_Field) hown hK hw g3_adS_fi rfl 0 (by decide) hE.nest (z_inN k_400 rfl) (fun _ h9 => h9) rfl d_RecordReader_readValue_203 ?_
      refine lv_aload_n hx hb d_RecordReader_readValue_206 rfl (lv_at hl 1 rfl) ?_
      refine z_get hx hb hts (z_lay i_RecordReader) hown hK hw g3_rd rfl 2 (by decide) (z_in k_504 rfl) (fun _ h9 => h9) rfl d_RecordReader_readValue_207 ?_
      refine z_getN hx hb hts (z_lay i_NodeRow) hown hK hw hw8 rfl 1 (by decide) hE.nest (z_inN k_136 rfl) (fun _ h9 => h9) rfl d_RecordReader_readValue_210 ?_
      refine lv_iconst (v := 1) hx hb d_RecordReader_readValue_213 (by decide) ?_
      refine lv_isub hx hb d_RecordReader_readValue_214 ?_
      refine z_topi (y := nI R.1) ((pk_sub (a := R.1 + 1) (b := 1) (by omega)).trans rfl) ?_
      refine lv_iload_n hx hb d_RecordReader_readValue_215 rfl (lv_at hl 4 rfl) ?_
      refine lv_iconst (v := 1) hx hb d_RecordReader_readValue_216 (by decide) ?_
      refine lv_iadd hx hb d_RecordReader_readValue_217 ?_
      refine z_topi (y := nI (d + 1)) (nI_add d 1) ?_
      refine z_callV (n := 3) (As := [.int (nI fi), .int (nI R.1), .int (nI (d + 1))]) (rest := []) ⟨hx, hb, hml, hown, hts⟩ (hM h3 (sk t n p) (addN R (nI fi, nI pi, 0, [])) R.1 fi _ _ _ _ (hS.k kkF (by omega) (by omega) (by omega)) g3_rd g3_sc g3_b ⟨_, g3_tr, hft, fun k hk => by simp at hk⟩ ⟨_, _, _, _, _, n8⟩ pa8 (by omega) (by omega) hfi9 (by omega) (by omega)) (z_in k_521 rfl) (z_in k_18 rfl) (z_in k_601 rfl) (z_in k_519 rfl) (z_in k_520 rfl) (by decide +kernel) ⟨by first | exact Nat.le_of_ble_eq_true rfl | (dsimp only; omega) | omega, by first | exact Nat.le_of_ble_eq_true rfl | (dsimp only; omega) | omega⟩ hK hE hw hA rfl g3_rd rfl hl.1 (Nat.le_of_ble_eq_true rfl) d_RecordReader_readValue_218 ⟨by first | exact Nat.le_of_ble_eq_true rfl | (dsimp only; omega) | omega, by first | exact Nat.le_of_ble_eq_true rfl | (dsimp only; omega) | omega⟩ rfl (fun r9 h9 H locs hp hw => ?_)
      obtain ⟨kk8, ⟨nu8, q8⟩, tr8, nA8, pA8, hp⟩ := hp
      rcases hR8 : MR (sk t n p) (addN R (nI fi, nI pi, 0, [])) R.1 fi with ⟨F8, R8⟩ | ⟨p8, R8⟩
      · -- members False
        rw [hR8] at hp nA8 pA8
        obtain ⟨r8, pf8, f8, w8, d8, e8, g8⟩ := hp
        subst r8
        obtain ⟨h4, e7⟩ : ∃ x9, x9 = h9 := ⟨_, rfl⟩
        subst e7
        have kkG : z_K (fun y => y = 6 ∨ y = 8 ∨ y = 10 ∨ y = mr ∨ y = mr + 1) h h4 := kkF.tr kk8
        have eW := eV.trans hR8
        have eY1 : (rrR (MR (sk t n p) (addN R (nI fi, nI pi, 0, [])) R.1 fi)).1 = (rrR (.inl (F8, R8) : RRes)).1 := by rw [hR8]
        have eY2 : tbR (rrR (MR (sk t n p) (addN R (nI fi, nI pi, 0, [])) R.1 fi)) = tbR (rrR (.inl (F8, R8) : RRes)) := by rw [hR8]
        have rr8 : rrR (.inl (F8, R8) : RRes) = R8 := rfl
        refine W.eq (g2 := F0 m 221 ls [.int 0]) rfl ?_
        refine lv_if_eq (tgt := 228) hx hb d_RecordReader_readValue_221 (by decide) (fun c_221 => ?_) (fun c_221 => ?_)
        · -- 221: True
          refine lv_iconst (v := 0) hx hb d_RecordReader_readValue_228 (by decide) ?_
          exact z_zret hx hb hr rfl hlocks hw (by rw [eW]; exact ⟨kkG, ⟨nu8, q8⟩, tr8, nA8, pA8, rfl, ⟨_, _, _, _, e8, g8⟩⟩) (by first | exact Nat.le_of_ble_eq_true rfl | (dsimp only; omega) | omega) (by first | exact Nat.le_of_ble_eq_true rfl | (dsimp only; omega) | omega) d_RecordReader_readValue_229
        · -- 221: False
          exact absurd (by decide) c_221
      · -- members True
        rw [hR8] at hp nA8 pA8
        obtain ⟨r8, ⟨f8, w8, d8, e8⟩, le8, le9, le10⟩ := hp
        subst r8
        obtain ⟨h5, e7⟩ : ∃ x9, x9 = h9 := ⟨_, rfl⟩
        subst e7
        have kkG : z_K (fun y => y = 6 ∨ y = 8 ∨ y = 10 ∨ y = mr ∨ y = mr + 1) h h5 := kkF.tr kk8
        have eW := eV.trans hR8
        have eY1 : (rrR (MR (sk t n p) (addN R (nI fi, nI pi, 0, [])) R.1 fi)).1 = (rrR (.inr (p8, R8) : RRes)).1 := by rw [hR8]
        have eY2 : tbR (rrR (MR (sk t n p) (addN R (nI fi, nI pi, 0, [])) R.1 fi)) = tbR (rrR (.inr (p8, R8) : RRes)) := by rw [hR8]
        have rr8 : rrR (.inr (p8, R8) : RRes) = R8 := rfl
        refine W.eq (g2 := F0 m 221 ls [.int 1]) rfl ?_
        refine lv_if_eq (tgt := 228) hx hb d_RecordReader_readValue_221 (by decide) (fun c_221 => ?_) (fun c_221 => ?_)
        · -- 221: True
          exact absurd c_221 (by decide)
        · -- 221: False
          refine lv_iconst (v := 1) hx hb d_RecordReader_readValue_224 (by decide) ?_
          refine lv_goto (tgt := 229) hx hb d_RecordReader_readValue_225 (by decide) ?_
          exact z_zret hx hb hr rfl hlocks hw (by rw [eW]; exact ⟨kkG, ⟨nu8, q8⟩, tr8, nA8, pA8, rfl, ⟨_, _, _, e8⟩, le8, le9, le10⟩) (by first | exact Nat.le_of_ble_eq_true rfl | (dsimp only; omega) | omega) (by first | exact Nat.le_of_ble_eq_true rfl | (dsimp only; omega) | omega) d_RecordReader_readValue_229
  · match j_21, c_21, d_21 with
    | 0, c_21, d_21 =>
      refine lv_tableIn (tgt := 52) (off := 31) hx hb d_RecordReader_readValue_21 (by rw [d_21]; decide) (by rw [d_21]; decide) (by rw [d_21]; rfl) (by decide) ?_
      have ty : fTy (S.2 fi) = nI 0 := i_of d_21 (by omega)
      refine lv_aload_n hx hb d_RecordReader_readValue_52 rfl (lv_at hl 1 rfl) ?_
      refine z_callV (n := 0) (As := []) (rest := []) ⟨hx, hb, hml, hown, hts⟩ (c_readBool (t := t) l g h1 f1_rd f1_sc f1_b hn hlen hf (by omega)) (z_in k_547 rfl) (z_in k_18 rfl) (z_in k_544 rfl) (z_in k_546 rfl) (z_in ks_9 rfl) (by decide +kernel) ⟨by first | exact Nat.le_of_ble_eq_true rfl | (dsimp only; omega) | omega, by first | exact Nat.le_of_ble_eq_true rfl | (dsimp only; omega) | omega⟩ hK hE hw hA rfl f1_rd rfl hl.1 (Nat.le_of_ble_eq_true rfl) d_RecordReader_readValue_53 ⟨by first | exact Nat.le_of_ble_eq_true rfl | (dsimp only; omega) | omega, by first | exact Nat.le_of_ble_eq_true rfl | (dsimp only; omega) | omega⟩ rfl (fun r9 h9 H locs hp hw => ?_)
      obtain ⟨kk8, hp⟩ := hp
      rcases hX : booR t n (sk t n p) with F8 | ⟨v8, p8⟩
      · -- False
        rw [hX] at hp
        obtain ⟨r8, ⟨pf8, f8, w8, d8, e8, g8⟩, v8, q8⟩ := hp
        subst r8
        obtain ⟨h6, e7⟩ : ∃ x9, x9 = h9 := ⟨_, rfl⟩
        subst e7
        have q8 : h6 rd = some ((8, 0), .inr (9, [.ref sc, .ref q, .ref w, .ref tr, .long v8])) := q8
        have g6_b : h6 b = some ((3, 0), .inl (g.2.1 0, len, .inl f)) := kk8 _ _ _ f1_b (by simp; try omega)
        have g6_tr : h6 tr = some ((10, 0), .inl (g.2.1 0, 255, .inl ft)) := kk8 _ _ _ f1_tr (by simp; try omega)
        have g6_adS_fi : h6 (adS fi) = some ((r + 1, fi), .inr (4, [.int (nI fi), .int (fKi (S.2 fi)), .int (fTy (S.2 fi)), .int (fGr (S.2 fi)), .ref (na fi), .int (fCo (S.2 fi)), .int (fRe (S.2 fi)), .int (fDe (S.2 fi)), .int (nI (rq S (nI fi)))])) := kk8 _ _ _ f1_adS_fi (by simp; try omega)
        have kk6 : z_K (fun y => y = 6 ∨ y = 8 ∨ y = 10) h h6 := kk1.tr (kk8.mono (fun y z => by rcases z with z | z <;> simp [z]))
        have eW : valR MR S t n fi pi p R = .inl (F8, R) := by unfold valR; rw [if_pos ty, hX]; rfl
        have eZ1 : (rrR (valR MR S t n fi pi p R)).1 = R.1 := by rw [eW]; rfl
        have eZ2 : tbR (rrR (valR MR S t n fi pi p R)) = tbR R := by rw [eW]; rfl
        refine W.eq (g2 := F0 m 56 ls [.int 0]) rfl ?_
        refine lv_if_eq (tgt := 77) hx hb d_RecordReader_readValue_56 (by decide) (fun c_56 => ?_) (fun c_56 => ?_)
        · -- 56: True
          refine lv_iconst (v := 0) hx hb d_RecordReader_readValue_77 (by decide) ?_
          exact z_zret hx hb hr rfl hlocks hw (by rw [eW]; exact ⟨kk6.mono (fun y z => by rcases z with z | z | z <;> simp [z]), ⟨_, q8⟩, ⟨_, g6_tr, hft, fun k hk => by simp at hk⟩, ⟨_, _, _, _, _, hN.k kk6 (by omega) (by omega) (by omega)⟩, hpa, rfl, ⟨_, _, _, _, e8, g8⟩⟩) (by first | exact Nat.le_of_ble_eq_true rfl | (dsimp only; omega) | omega) (by first | exact Nat.le_of_ble_eq_true rfl | (dsimp only; omega) | omega) d_RecordReader_readValue_78
        · -- 56: False
          exact absurd (by decide) c_56
      · -- True
        rw [hX] at hp
        obtain ⟨r8, ⟨f8, w8, d8, e8⟩, q8⟩ := hp
        subst r8
        obtain ⟨h7, e7⟩ : ∃ x9, x9 = h9 := ⟨_, rfl⟩
        subst e7
        have q8 : h7 rd = some ((8, 0), .inr (9, [.ref sc, .ref q, .ref w, .ref tr, .long v8])) := q8
        have g7_b : h7 b = some ((3, 0), .inl (g.2.1 0, len, .inl f)) := kk8 _ _ _ f1_b (by simp; try omega)
        have g7_tr : h7 tr = some ((10, 0), .inl (g.2.1 0, 255, .inl ft)) := kk8 _ _ _ f1_tr (by simp; try omega)
        have g7_adS_fi : h7 (adS fi) = some ((r + 1, fi), .inr (4, [.int (nI fi), .int (fKi (S.2 fi)), .int (fTy (S.2 fi)), .int (fGr (S.2 fi)), .ref (na fi), .int (fCo (S.2 fi)), .int (fRe (S.2 fi)), .int (fDe (S.2 fi)), .int (nI (rq S (nI fi)))])) := kk8 _ _ _ f1_adS_fi (by simp; try omega)
        have kk7 : z_K (fun y => y = 6 ∨ y = 8 ∨ y = 10) h h7 := kk1.tr (kk8.mono (fun y z => by rcases z with z | z <;> simp [z]))
        obtain ⟨le8, ge8⟩ := booR_ok (fun k hk => (hf k hk).1) sk1 hX
        dsimp only at le8 ge8
        have eW : valR MR S t n fi pi p R = .inr (p8, addN R (nI fi, nI pi, v8, [])) := by unfold valR; rw [if_pos ty, hX]; rfl
        have eZ1 : (rrR (valR MR S t n fi pi p R)).1 = R.1 + 1 := by rw [eW]; rfl
        have eZ2 : tbR (rrR (valR MR S t n fi pi p R)) = tbR R + 0 := by rw [eW]; exact tbR_add R _
        refine W.eq (g2 := F0 m 56 ls [.int 1]) rfl ?_
        refine lv_if_eq (tgt := 77) hx hb d_RecordReader_readValue_56 (by decide) (fun c_56 => ?_) (fun c_56 => ?_)
        · -- 56: True
          exact absurd c_56 (by decide)
        · -- 56: False
          refine lv_aload_n hx hb d_RecordReader_readValue_59 rfl (lv_at hl 1 rfl) ?_
          refine lv_aload_n hx hb d_RecordReader_readValue_60 rfl (lv_at hl 2 rfl) ?_
          refine lv_iload_n hx hb d_RecordReader_readValue_61 rfl (lv_at hl 3 rfl) ?_
          refine z_nob (ref := "") hx hb hE hw hown (z_inN k_551 rfl) d_RecordReader_readValue_62 ?_
          refine lv_iload hx hb d_RecordReader_readValue_65 (lv_at hl 0 rfl) ?_
          refine z_callV (n := 4) (As := [.ref (adS fi), .int (nI pi), .ref (g.2.2 0), .int (nI (sk t n p))]) (rest := []) ⟨hx, hb, hml, hown, hts⟩ (c_keep0 (S := S) (nu9 := v8) l g h7 q8 g7_adS_fi (hN.k kk7 (by omega) (by omega) (by omega)) hpa hpi9 (by omega) (by omega) hm (by omega) rfl (by omega)) (z_in k_555 rfl) (z_in k_18 rfl) (z_in k_552 rfl) (z_in k_554 rfl) (z_in ks_10 rfl) (by decide +kernel) ⟨by first | exact Nat.le_of_ble_eq_true rfl | (dsimp only; omega) | omega, by first | exact Nat.le_of_ble_eq_true rfl | (dsimp only; omega) | omega⟩ hK hE hw hA rfl q8 rfl hl.1 (Nat.le_of_ble_eq_true rfl) d_RecordReader_readValue_67 ⟨by first | exact Nat.le_of_ble_eq_true rfl | (dsimp only; omega) | omega, by first | exact Nat.le_of_ble_eq_true rfl | (dsimp only; omega) | omega⟩ rfl (fun r9 h9 H locs hp hw => ?_)
          obtain ⟨nn, r8, n8, pa8, k8⟩ := hp
          subst r8
          obtain ⟨h8, e7⟩ : ∃ x9, x9 = h9 := ⟨_, rfl⟩
          subst e7
          have g8_rd : h8 rd = some ((8, 0), .inr (9, [.ref sc, .ref q, .ref w, .ref tr, .long v8])) := k8 _ _ _ q8 (by simp; omega)
          have g8_sc : h8 sc = some ((6, 0), .inr (7, [.ref b, .int (nI n), .int (nI p8), .int f8, .int w8, .int d8])) := k8 _ _ _ e8 (by simp; omega)
          have g8_b : h8 b = some ((3, 0), .inl (g.2.1 0, len, .inl f)) := k8 _ _ _ g7_b (by simp; omega)
          have g8_tr : h8 tr = some ((10, 0), .inl (g.2.1 0, 255, .inl ft)) := k8 _ _ _ g7_tr (by simp; omega)
          have g8_adS_fi : h8 (adS fi) = some ((r + 1, fi), .inr (4, [.int (nI fi), .int (fKi (S.2 fi)), .int (fTy (S.2 fi)), .int (fGr (S.2 fi)), .ref (na fi), .int (fCo (S.2 fi)), .int (fRe (S.2 fi)), .int (fDe (S.2 fi)), .int (nI (rq S (nI fi)))])) := k8 _ _ _ g7_adS_fi (by simp; omega)
          have kkF : z_K (fun y => y = 6 ∨ y = 8 ∨ y = 10 ∨ y = mr ∨ y = mr + 1) h h8 := (kk7.mono (fun y z => by rcases z with z | z | z <;> simp [z])).tr (k8.K (fun t z => by rcases z with z | z | z | z <;> simp [z]))
          have tb8 := tbR_add R (nI fi, nI pi, v8, [])
          dsimp only [ndTx] at tb8
          simp only [List.length_nil] at tb8
          have sz8 : (addN R (nI fi, nI pi, v8, [])).1 = R.1 + 1 := rfl
          have hw8 := n8.1
          refine W.eq (g2 := F0 m 70 ls [.int 1]) rfl ?_
          refine lv_if_eq (tgt := 77) hx hb d_RecordReader_readValue_70 (by decide) (fun c_70 => ?_) (fun c_70 => ?_)
          · -- 70: True
            exact absurd c_70 (by decide)
          · -- 70: False
            refine lv_iconst (v := 1) hx hb d_RecordReader_readValue_73 (by decide) ?_
            refine lv_goto (tgt := 78) hx hb d_RecordReader_readValue_74 (by decide) ?_
            exact z_zret hx hb hr rfl hlocks hw (by rw [eW]; exact ⟨kkF, ⟨_, g8_rd⟩, ⟨_, g8_tr, hft, fun k hk => by simp at hk⟩, ⟨_, _, _, _, _, n8⟩, pa8, rfl, ⟨_, _, _, g8_sc⟩, le8, by dsimp only; omega, by dsimp only; omega⟩) (by first | exact Nat.le_of_ble_eq_true rfl | (dsimp only; omega) | omega) (by first | exact Nat.le_of_ble_eq_true rfl | (dsimp only; omega) | omega) d_RecordReader_readValue_78
    | 1, c_21, d_21 =>
      refine lv_tableIn (tgt := 79) (off := 58) hx hb d_RecordReader_readValue_21 (by rw [d_21]; decide) (by rw [d_21]; decide) (by rw [d_21]; rfl) (by decide) ?_
      have ty : fTy (S.2 fi) = nI 1 := i_of d_21 (by omega)
      have ty0 : ¬ fTy (S.2 fi) = nI 0 := by rw [ty]; decide
      refine lv_aload_n hx hb d_RecordReader_readValue_79 rfl (lv_at hl 1 rfl) ?_
      refine lv_ldc2 hx hb hown (hts _ (z_in k_565 rfl)) d_RecordReader_readValue_80 ?_
      refine z_callV (n := 1) (As := [.long (-2147483648)]) (rest := []) ⟨hx, hb, hml, hown, hts⟩ (c_readNumber (t := t) l g h1 f1_rd f1_sc f1_b hn hlen hf (by omega) hl29) (z_in k_569 rfl) (z_in k_18 rfl) (z_in k_566 rfl) (z_in k_568 rfl) (z_in ks_11 rfl) (by decide +kernel) ⟨by first | exact Nat.le_of_ble_eq_true rfl | (dsimp only; omega) | omega, by first | exact Nat.le_of_ble_eq_true rfl | (dsimp only; omega) | omega⟩ hK hE hw hA rfl f1_rd rfl hl.1 (Nat.le_of_ble_eq_true rfl) d_RecordReader_readValue_83 ⟨by first | exact Nat.le_of_ble_eq_true rfl | (dsimp only; omega) | omega, by first | exact Nat.le_of_ble_eq_true rfl | (dsimp only; omega) | omega⟩ rfl (fun r9 h9 H locs hp hw => ?_)
      obtain ⟨kk8, hp⟩ := hp
      rcases hX : numR t n (sk t n p) (-2147483648) with F8 | ⟨v8, p8⟩
      · -- False
        rw [hX] at hp
        obtain ⟨r8, ⟨pf8, f8, w8, d8, e8, g8⟩, v8, q8⟩ := hp
        subst r8
        obtain ⟨h9, e7⟩ : ∃ x9, x9 = h9 := ⟨_, rfl⟩
        subst e7
        have q8 : h9 rd = some ((8, 0), .inr (9, [.ref sc, .ref q, .ref w, .ref tr, .long v8])) := q8
        have g9_b : h9 b = some ((3, 0), .inl (g.2.1 0, len, .inl f)) := kk8 _ _ _ f1_b (by simp; try omega)
        have g9_tr : h9 tr = some ((10, 0), .inl (g.2.1 0, 255, .inl ft)) := kk8 _ _ _ f1_tr (by simp; try omega)
        have g9_adS_fi : h9 (adS fi) = some ((r + 1, fi), .inr (4, [.int (nI fi), .int (fKi (S.2 fi)), .int (fTy (S.2 fi)), .int (fGr (S.2 fi)), .ref (na fi), .int (fCo (S.2 fi)), .int (fRe (S.2 fi)), .int (fDe (S.2 fi)), .int (nI (rq S (nI fi)))])) := kk8 _ _ _ f1_adS_fi (by simp; try omega)
        have kk9 : z_K (fun y => y = 6 ∨ y = 8 ∨ y = 10) h h9 := kk1.tr (kk8.mono (fun y z => by rcases z with z | z <;> simp [z]))
        have eW : valR MR S t n fi pi p R = .inl (F8, R) := by unfold valR; rw [if_neg ty0, if_pos ty, hX]; rfl
        have eZ1 : (rrR (valR MR S t n fi pi p R)).1 = R.1 := by rw [eW]; rfl
        have eZ2 : tbR (rrR (valR MR S t n fi pi p R)) = tbR R := by rw [eW]; rfl
        refine W.eq (g2 := F0 m 86 ls [.int 0]) rfl ?_
        refine lv_if_eq (tgt := 107) hx hb d_RecordReader_readValue_86 (by decide) (fun c_86 => ?_) (fun c_86 => ?_)
        · -- 86: True
          refine lv_iconst (v := 0) hx hb d_RecordReader_readValue_107 (by decide) ?_
          exact z_zret hx hb hr rfl hlocks hw (by rw [eW]; exact ⟨kk9.mono (fun y z => by rcases z with z | z | z <;> simp [z]), ⟨_, q8⟩, ⟨_, g9_tr, hft, fun k hk => by simp at hk⟩, ⟨_, _, _, _, _, hN.k kk9 (by omega) (by omega) (by omega)⟩, hpa, rfl, ⟨_, _, _, _, e8, g8⟩⟩) (by first | exact Nat.le_of_ble_eq_true rfl | (dsimp only; omega) | omega) (by first | exact Nat.le_of_ble_eq_true rfl | (dsimp only; omega) | omega) d_RecordReader_readValue_108
        · -- 86: False
          exact absurd (by decide) c_86
      · -- True
        rw [hX] at hp
        obtain ⟨r8, ⟨f8, w8, d8, e8⟩, q8⟩ := hp
        subst r8
        obtain ⟨h10, e7⟩ : ∃ x9, x9 = h9 := ⟨_, rfl⟩
        subst e7
        have q8 : h10 rd = some ((8, 0), .inr (9, [.ref sc, .ref q, .ref w, .ref tr, .long v8])) := q8
        have g10_b : h10 b = some ((3, 0), .inl (g.2.1 0, len, .inl f)) := kk8 _ _ _ f1_b (by simp; try omega)
        have g10_tr : h10 tr = some ((10, 0), .inl (g.2.1 0, 255, .inl ft)) := kk8 _ _ _ f1_tr (by simp; try omega)
        have g10_adS_fi : h10 (adS fi) = some ((r + 1, fi), .inr (4, [.int (nI fi), .int (fKi (S.2 fi)), .int (fTy (S.2 fi)), .int (fGr (S.2 fi)), .ref (na fi), .int (fCo (S.2 fi)), .int (fRe (S.2 fi)), .int (fDe (S.2 fi)), .int (nI (rq S (nI fi)))])) := kk8 _ _ _ f1_adS_fi (by simp; try omega)
        have kk10 : z_K (fun y => y = 6 ∨ y = 8 ∨ y = 10) h h10 := kk1.tr (kk8.mono (fun y z => by rcases z with z | z <;> simp [z]))
        obtain ⟨le8, ge8⟩ := numR_ok hX
        dsimp only at le8 ge8
        have eW : valR MR S t n fi pi p R = .inr (p8, addN R (nI fi, nI pi, v8, [])) := by unfold valR; rw [if_neg ty0, if_pos ty, hX]; rfl
        have eZ1 : (rrR (valR MR S t n fi pi p R)).1 = R.1 + 1 := by rw [eW]; rfl
        have eZ2 : tbR (rrR (valR MR S t n fi pi p R)) = tbR R + 0 := by rw [eW]; exact tbR_add R _
        refine W.eq (g2 := F0 m 86 ls [.int 1]) rfl ?_
        refine lv_if_eq (tgt := 107) hx hb d_RecordReader_readValue_86 (by decide) (fun c_86 => ?_) (fun c_86 => ?_)
        · -- 86: True
          exact absurd c_86 (by decide)
        · -- 86: False
          refine lv_aload_n hx hb d_RecordReader_readValue_89 rfl (lv_at hl 1 rfl) ?_
          refine lv_aload_n hx hb d_RecordReader_readValue_90 rfl (lv_at hl 2 rfl) ?_
          refine lv_iload_n hx hb d_RecordReader_readValue_91 rfl (lv_at hl 3 rfl) ?_
          refine z_nob (ref := "") hx hb hE hw hown (z_inN k_551 rfl) d_RecordReader_readValue_92 ?_
          refine lv_iload hx hb d_RecordReader_readValue_95 (lv_at hl 0 rfl) ?_
          refine z_callV (n := 4) (As := [.ref (adS fi), .int (nI pi), .ref (g.2.2 0), .int (nI (sk t n p))]) (rest := []) ⟨hx, hb, hml, hown, hts⟩ (c_keep0 (S := S) (nu9 := v8) l g h10 q8 g10_adS_fi (hN.k kk10 (by omega) (by omega) (by omega)) hpa hpi9 (by omega) (by omega) hm (by omega) rfl (by omega)) (z_in k_555 rfl) (z_in k_18 rfl) (z_in k_552 rfl) (z_in k_554 rfl) (z_in ks_10 rfl) (by decide +kernel) ⟨by first | exact Nat.le_of_ble_eq_true rfl | (dsimp only; omega) | omega, by first | exact Nat.le_of_ble_eq_true rfl | (dsimp only; omega) | omega⟩ hK hE hw hA rfl q8 rfl hl.1 (Nat.le_of_ble_eq_true rfl) d_RecordReader_readValue_97 ⟨by first | exact Nat.le_of_ble_eq_true rfl | (dsimp only; omega) | omega, by first | exact Nat.le_of_ble_eq_true rfl | (dsimp only; omega) | omega⟩ rfl (fun r9 h9 H locs hp hw => ?_)
          obtain ⟨nn, r8, n8, pa8, k8⟩ := hp
          subst r8
          obtain ⟨h11, e7⟩ : ∃ x9, x9 = h9 := ⟨_, rfl⟩
          subst e7
          have g11_rd : h11 rd = some ((8, 0), .inr (9, [.ref sc, .ref q, .ref w, .ref tr, .long v8])) := k8 _ _ _ q8 (by simp; omega)
          have g11_sc : h11 sc = some ((6, 0), .inr (7, [.ref b, .int (nI n), .int (nI p8), .int f8, .int w8, .int d8])) := k8 _ _ _ e8 (by simp; omega)
          have g11_b : h11 b = some ((3, 0), .inl (g.2.1 0, len, .inl f)) := k8 _ _ _ g10_b (by simp; omega)
          have g11_tr : h11 tr = some ((10, 0), .inl (g.2.1 0, 255, .inl ft)) := k8 _ _ _ g10_tr (by simp; omega)
          have g11_adS_fi : h11 (adS fi) = some ((r + 1, fi), .inr (4, [.int (nI fi), .int (fKi (S.2 fi)), .int (fTy (S.2 fi)), .int (fGr (S.2 fi)), .ref (na fi), .int (fCo (S.2 fi)), .int (fRe (S.2 fi)), .int (fDe (S.2 fi)), .int (nI (rq S (nI fi)))])) := k8 _ _ _ g10_adS_fi (by simp; omega)
          have kkF : z_K (fun y => y = 6 ∨ y = 8 ∨ y = 10 ∨ y = mr ∨ y = mr + 1) h h11 := (kk10.mono (fun y z => by rcases z with z | z | z <;> simp [z])).tr (k8.K (fun t z => by rcases z with z | z | z | z <;> simp [z]))
          have tb8 := tbR_add R (nI fi, nI pi, v8, [])
          dsimp only [ndTx] at tb8
          simp only [List.length_nil] at tb8
          have sz8 : (addN R (nI fi, nI pi, v8, [])).1 = R.1 + 1 := rfl
          have hw8 := n8.1
          refine W.eq (g2 := F0 m 100 ls [.int 1]) rfl ?_
          refine lv_if_eq (tgt := 107) hx hb d_RecordReader_readValue_100 (by decide) (fun c_100 => ?_) (fun c_100 => ?_)
          · -- 100: True
            exact absurd c_100 (by decide)
          · -- 100: False
            refine lv_iconst (v := 1) hx hb d_RecordReader_readValue_103 (by decide) ?_
            refine lv_goto (tgt := 108) hx hb d_RecordReader_readValue_104 (by decide) ?_
            exact z_zret hx hb hr rfl hlocks hw (by rw [eW]; exact ⟨kkF, ⟨_, g11_rd⟩, ⟨_, g11_tr, hft, fun k hk => by simp at hk⟩, ⟨_, _, _, _, _, n8⟩, pa8, rfl, ⟨_, _, _, g11_sc⟩, le8, by dsimp only; omega, by dsimp only; omega⟩) (by first | exact Nat.le_of_ble_eq_true rfl | (dsimp only; omega) | omega) (by first | exact Nat.le_of_ble_eq_true rfl | (dsimp only; omega) | omega) d_RecordReader_readValue_108
    | 2, c_21, d_21 =>
      refine lv_tableIn (tgt := 109) (off := 88) hx hb d_RecordReader_readValue_21 (by rw [d_21]; decide) (by rw [d_21]; decide) (by rw [d_21]; rfl) (by decide) ?_
      have ty : fTy (S.2 fi) = nI 2 := i_of d_21 (by omega)
      have ty0 : ¬ fTy (S.2 fi) = nI 0 := by rw [ty]; decide
      have ty1 : ¬ fTy (S.2 fi) = nI 1 := by rw [ty]; decide
      refine lv_aload_n hx hb d_RecordReader_readValue_109 rfl (lv_at hl 1 rfl) ?_
      refine lv_ldc2 hx hb hown (hts _ (z_in k_578 rfl)) d_RecordReader_readValue_110 ?_
      refine z_callV (n := 1) (As := [.long (-9223372036854775808)]) (rest := []) ⟨hx, hb, hml, hown, hts⟩ (c_readNumber (t := t) l g h1 f1_rd f1_sc f1_b hn hlen hf (by omega) hl29) (z_in k_569 rfl) (z_in k_18 rfl) (z_in k_566 rfl) (z_in k_568 rfl) (z_in ks_11 rfl) (by decide +kernel) ⟨by first | exact Nat.le_of_ble_eq_true rfl | (dsimp only; omega) | omega, by first | exact Nat.le_of_ble_eq_true rfl | (dsimp only; omega) | omega⟩ hK hE hw hA rfl f1_rd rfl hl.1 (Nat.le_of_ble_eq_true rfl) d_RecordReader_readValue_113 ⟨by first | exact Nat.le_of_ble_eq_true rfl | (dsimp only; omega) | omega, by first | exact Nat.le_of_ble_eq_true rfl | (dsimp only; omega) | omega⟩ rfl (fun r9 h9 H locs hp hw => ?_)
      obtain ⟨kk8, hp⟩ := hp
      rcases hX : numR t n (sk t n p) (-9223372036854775808) with F8 | ⟨v8, p8⟩
      · -- False
        rw [hX] at hp
        obtain ⟨r8, ⟨pf8, f8, w8, d8, e8, g8⟩, v8, q8⟩ := hp
        subst r8
        obtain ⟨h12, e7⟩ : ∃ x9, x9 = h9 := ⟨_, rfl⟩
        subst e7
        have q8 : h12 rd = some ((8, 0), .inr (9, [.ref sc, .ref q, .ref w, .ref tr, .long v8])) := q8
        have g12_b : h12 b = some ((3, 0), .inl (g.2.1 0, len, .inl f)) := kk8 _ _ _ f1_b (by simp; try omega)
        have g12_tr : h12 tr = some ((10, 0), .inl (g.2.1 0, 255, .inl ft)) := kk8 _ _ _ f1_tr (by simp; try omega)
        have g12_adS_fi : h12 (adS fi) = some ((r + 1, fi), .inr (4, [.int (nI fi), .int (fKi (S.2 fi)), .int (fTy (S.2 fi)), .int (fGr (S.2 fi)), .ref (na fi), .int (fCo (S.2 fi)), .int (fRe (S.2 fi)), .int (fDe (S.2 fi)), .int (nI (rq S (nI fi)))])) := kk8 _ _ _ f1_adS_fi (by simp; try omega)
        have kk12 : z_K (fun y => y = 6 ∨ y = 8 ∨ y = 10) h h12 := kk1.tr (kk8.mono (fun y z => by rcases z with z | z <;> simp [z]))
        have eW : valR MR S t n fi pi p R = .inl (F8, R) := by unfold valR; rw [if_neg ty0, if_neg ty1, if_pos ty, hX]; rfl
        have eZ1 : (rrR (valR MR S t n fi pi p R)).1 = R.1 := by rw [eW]; rfl
        have eZ2 : tbR (rrR (valR MR S t n fi pi p R)) = tbR R := by rw [eW]; rfl
        refine W.eq (g2 := F0 m 116 ls [.int 0]) rfl ?_
        refine lv_if_eq (tgt := 137) hx hb d_RecordReader_readValue_116 (by decide) (fun c_116 => ?_) (fun c_116 => ?_)
        · -- 116: True
          refine lv_iconst (v := 0) hx hb d_RecordReader_readValue_137 (by decide) ?_
          exact z_zret hx hb hr rfl hlocks hw (by rw [eW]; exact ⟨kk12.mono (fun y z => by rcases z with z | z | z <;> simp [z]), ⟨_, q8⟩, ⟨_, g12_tr, hft, fun k hk => by simp at hk⟩, ⟨_, _, _, _, _, hN.k kk12 (by omega) (by omega) (by omega)⟩, hpa, rfl, ⟨_, _, _, _, e8, g8⟩⟩) (by first | exact Nat.le_of_ble_eq_true rfl | (dsimp only; omega) | omega) (by first | exact Nat.le_of_ble_eq_true rfl | (dsimp only; omega) | omega) d_RecordReader_readValue_138
        · -- 116: False
          exact absurd (by decide) c_116
      · -- True
        rw [hX] at hp
        obtain ⟨r8, ⟨f8, w8, d8, e8⟩, q8⟩ := hp
        subst r8
        obtain ⟨h13, e7⟩ : ∃ x9, x9 = h9 := ⟨_, rfl⟩
        subst e7
        have q8 : h13 rd = some ((8, 0), .inr (9, [.ref sc, .ref q, .ref w, .ref tr, .long v8])) := q8
        have g13_b : h13 b = some ((3, 0), .inl (g.2.1 0, len, .inl f)) := kk8 _ _ _ f1_b (by simp; try omega)
        have g13_tr : h13 tr = some ((10, 0), .inl (g.2.1 0, 255, .inl ft)) := kk8 _ _ _ f1_tr (by simp; try omega)
        have g13_adS_fi : h13 (adS fi) = some ((r + 1, fi), .inr (4, [.int (nI fi), .int (fKi (S.2 fi)), .int (fTy (S.2 fi)), .int (fGr (S.2 fi)), .ref (na fi), .int (fCo (S.2 fi)), .int (fRe (S.2 fi)), .int (fDe (S.2 fi)), .int (nI (rq S (nI fi)))])) := kk8 _ _ _ f1_adS_fi (by simp; try omega)
        have kk13 : z_K (fun y => y = 6 ∨ y = 8 ∨ y = 10) h h13 := kk1.tr (kk8.mono (fun y z => by rcases z with z | z <;> simp [z]))
        obtain ⟨le8, ge8⟩ := numR_ok hX
        dsimp only at le8 ge8
        have eW : valR MR S t n fi pi p R = .inr (p8, addN R (nI fi, nI pi, v8, [])) := by unfold valR; rw [if_neg ty0, if_neg ty1, if_pos ty, hX]; rfl
        have eZ1 : (rrR (valR MR S t n fi pi p R)).1 = R.1 + 1 := by rw [eW]; rfl
        have eZ2 : tbR (rrR (valR MR S t n fi pi p R)) = tbR R + 0 := by rw [eW]; exact tbR_add R _
        refine W.eq (g2 := F0 m 116 ls [.int 1]) rfl ?_
        refine lv_if_eq (tgt := 137) hx hb d_RecordReader_readValue_116 (by decide) (fun c_116 => ?_) (fun c_116 => ?_)
        · -- 116: True
          exact absurd c_116 (by decide)
        · -- 116: False
          refine lv_aload_n hx hb d_RecordReader_readValue_119 rfl (lv_at hl 1 rfl) ?_
          refine lv_aload_n hx hb d_RecordReader_readValue_120 rfl (lv_at hl 2 rfl) ?_
          refine lv_iload_n hx hb d_RecordReader_readValue_121 rfl (lv_at hl 3 rfl) ?_
          refine z_nob (ref := "") hx hb hE hw hown (z_inN k_551 rfl) d_RecordReader_readValue_122 ?_
          refine lv_iload hx hb d_RecordReader_readValue_125 (lv_at hl 0 rfl) ?_
          refine z_callV (n := 4) (As := [.ref (adS fi), .int (nI pi), .ref (g.2.2 0), .int (nI (sk t n p))]) (rest := []) ⟨hx, hb, hml, hown, hts⟩ (c_keep0 (S := S) (nu9 := v8) l g h13 q8 g13_adS_fi (hN.k kk13 (by omega) (by omega) (by omega)) hpa hpi9 (by omega) (by omega) hm (by omega) rfl (by omega)) (z_in k_555 rfl) (z_in k_18 rfl) (z_in k_552 rfl) (z_in k_554 rfl) (z_in ks_10 rfl) (by decide +kernel) ⟨by first | exact Nat.le_of_ble_eq_true rfl | (dsimp only; omega) | omega, by first | exact Nat.le_of_ble_eq_true rfl | (dsimp only; omega) | omega⟩ hK hE hw hA rfl q8 rfl hl.1 (Nat.le_of_ble_eq_true rfl) d_RecordReader_readValue_127 ⟨by first | exact Nat.le_of_ble_eq_true rfl | (dsimp only; omega) | omega, by first | exact Nat.le_of_ble_eq_true rfl | (dsimp only; omega) | omega⟩ rfl (fun r9 h9 H locs hp hw => ?_)
          obtain ⟨nn, r8, n8, pa8, k8⟩ := hp
          subst r8
          obtain ⟨h14, e7⟩ : ∃ x9, x9 = h9 := ⟨_, rfl⟩
          subst e7
          have g14_rd : h14 rd = some ((8, 0), .inr (9, [.ref sc, .ref q, .ref w, .ref tr, .long v8])) := k8 _ _ _ q8 (by simp; omega)
          have g14_sc : h14 sc = some ((6, 0), .inr (7, [.ref b, .int (nI n), .int (nI p8), .int f8, .int w8, .int d8])) := k8 _ _ _ e8 (by simp; omega)
          have g14_b : h14 b = some ((3, 0), .inl (g.2.1 0, len, .inl f)) := k8 _ _ _ g13_b (by simp; omega)
          have g14_tr : h14 tr = some ((10, 0), .inl (g.2.1 0, 255, .inl ft)) := k8 _ _ _ g13_tr (by simp; omega)
          have g14_adS_fi : h14 (adS fi) = some ((r + 1, fi), .inr (4, [.int (nI fi), .int (fKi (S.2 fi)), .int (fTy (S.2 fi)), .int (fGr (S.2 fi)), .ref (na fi), .int (fCo (S.2 fi)), .int (fRe (S.2 fi)), .int (fDe (S.2 fi)), .int (nI (rq S (nI fi)))])) := k8 _ _ _ g13_adS_fi (by simp; omega)
          have kkF : z_K (fun y => y = 6 ∨ y = 8 ∨ y = 10 ∨ y = mr ∨ y = mr + 1) h h14 := (kk13.mono (fun y z => by rcases z with z | z | z <;> simp [z])).tr (k8.K (fun t z => by rcases z with z | z | z | z <;> simp [z]))
          have tb8 := tbR_add R (nI fi, nI pi, v8, [])
          dsimp only [ndTx] at tb8
          simp only [List.length_nil] at tb8
          have sz8 : (addN R (nI fi, nI pi, v8, [])).1 = R.1 + 1 := rfl
          have hw8 := n8.1
          refine W.eq (g2 := F0 m 130 ls [.int 1]) rfl ?_
          refine lv_if_eq (tgt := 137) hx hb d_RecordReader_readValue_130 (by decide) (fun c_130 => ?_) (fun c_130 => ?_)
          · -- 130: True
            exact absurd c_130 (by decide)
          · -- 130: False
            refine lv_iconst (v := 1) hx hb d_RecordReader_readValue_133 (by decide) ?_
            refine lv_goto (tgt := 138) hx hb d_RecordReader_readValue_134 (by decide) ?_
            exact z_zret hx hb hr rfl hlocks hw (by rw [eW]; exact ⟨kkF, ⟨_, g14_rd⟩, ⟨_, g14_tr, hft, fun k hk => by simp at hk⟩, ⟨_, _, _, _, _, n8⟩, pa8, rfl, ⟨_, _, _, g14_sc⟩, le8, by dsimp only; omega, by dsimp only; omega⟩) (by first | exact Nat.le_of_ble_eq_true rfl | (dsimp only; omega) | omega) (by first | exact Nat.le_of_ble_eq_true rfl | (dsimp only; omega) | omega) d_RecordReader_readValue_138
    | 3, c_21, d_21 =>
      refine lv_tableIn (tgt := 139) (off := 118) hx hb d_RecordReader_readValue_21 (by rw [d_21]; decide) (by rw [d_21]; decide) (by rw [d_21]; rfl) (by decide) ?_
      have ty : fTy (S.2 fi) = nI 3 := i_of d_21 (by omega)
      have ty0 : ¬ fTy (S.2 fi) = nI 0 := by rw [ty]; decide
      have ty1 : ¬ fTy (S.2 fi) = nI 1 := by rw [ty]; decide
      have ty2 : ¬ fTy (S.2 fi) = nI 2 := by rw [ty]; decide
      refine lv_aload_n hx hb d_RecordReader_readValue_139 rfl (lv_at hl 1 rfl) ?_
      refine lv_lconst (v := 0) hx hb d_RecordReader_readValue_140 (by decide) ?_
      refine z_putf (ty := .long) hx hb hts (z_lay i_RecordReader) t_RecordReader t_RecordReader_ok n_RecordReader hown hK hw f1_rd rfl 4 (by decide) (z_in k_506 rfl) (fun _ h9 => h9) rfl (by decide +kernel) rfl rfl (Nat.le_of_ble_eq_true rfl) d_RecordReader_readValue_141 (fun H locs hw => ?_)
      obtain ⟨h15, hh15⟩ : ∃ x9, z_put h1 rd (8, 0) (.inr (9, [.ref sc, .ref q, .ref w, .ref tr, .long 0])) = x9 := ⟨_, rfl⟩
      have hw : z_S g A s.heap h15 H locs := by rw [← hh15]; exact hw
      have f15_rd : h15 rd = some ((8, 0), .inr (9, [.ref sc, .ref q, .ref w, .ref tr, .long 0])) := by rw [← hh15]; exact z_put_eq
      have f15_sc : h15 sc = some ((6, 0), .inr (7, [.ref b, .int (nI n), .int (nI (sk t n p)), .int fa, .int ws, .int wd])) := by rw [← hh15]; exact z_keep f1_rd f1_sc (z_t1 (by decide))
      have f15_b : h15 b = some ((3, 0), .inl (g.2.1 0, len, .inl f)) := by rw [← hh15]; exact z_keep f1_rd f1_b (z_t1 (by decide))
      have f15_tr : h15 tr = some ((10, 0), .inl (g.2.1 0, 255, .inl ft)) := by rw [← hh15]; exact z_keep f1_rd f1_tr (z_t1 (by decide))
      have f15_adS_fi : h15 (adS fi) = some ((r + 1, fi), .inr (4, [.int (nI fi), .int (fKi (S.2 fi)), .int (fTy (S.2 fi)), .int (fGr (S.2 fi)), .ref (na fi), .int (fCo (S.2 fi)), .int (fRe (S.2 fi)), .int (fDe (S.2 fi)), .int (nI (rq S (nI fi)))])) := by rw [← hh15]; exact z_keep f1_rd f1_adS_fi (by first | decide | (refine z_t1 ?_; omega) | (refine z_t2 ?_; omega))
      have kk15 : z_K (fun y => y = 6 ∨ y = 8 ∨ y = 10) h h15 := kk1.tr (by rw [← hh15]; exact z_K.put f1_rd (by first | decide | simp | omega))
      refine lv_aload_n hx hb d_RecordReader_readValue_144 rfl (lv_at hl 1 rfl) ?_
      refine z_callV (n := 0) (As := []) (rest := []) ⟨hx, hb, hml, hown, hts⟩ (c_readText (t := t) l g h15 f15_rd f15_sc f15_b f15_tr hn hlen hf (by omega) hl29 hft) (z_in k_582 rfl) (z_in k_18 rfl) (z_in k_579 rfl) (z_in k_581 rfl) (z_in ks_12 rfl) (by decide +kernel) ⟨by first | exact Nat.le_of_ble_eq_true rfl | (dsimp only; omega) | omega, by first | exact Nat.le_of_ble_eq_true rfl | (dsimp only; omega) | omega⟩ hK hE hw hA rfl f15_rd rfl hl.1 (Nat.le_of_ble_eq_true rfl) d_RecordReader_readValue_145 ⟨by first | exact Nat.le_of_ble_eq_true rfl | (dsimp only; omega) | omega, by first | exact Nat.le_of_ble_eq_true rfl | (dsimp only; omega) | omega⟩ rfl (fun r9 h9 H locs hp hw => ?_)
      obtain ⟨kk8, hp⟩ := hp
      rcases hX : txR t n (sk t n p) with F8 | ⟨p8, l8⟩
      · -- text False
        rw [hX] at hp
        obtain ⟨r8, ⟨pf8, f8, w8, d8, e8, g8⟩, ft8, tr8, fb8, -⟩ := hp
        subst r8
        obtain ⟨h16, e7⟩ : ∃ x9, x9 = h9 := ⟨_, rfl⟩
        subst e7
        have g16_rd : h16 rd = some ((8, 0), .inr (9, [.ref sc, .ref q, .ref w, .ref tr, .long 0])) := kk8 _ _ _ f15_rd (by simp; try omega)
        have g16_b : h16 b = some ((3, 0), .inl (g.2.1 0, len, .inl f)) := kk8 _ _ _ f15_b (by simp; try omega)
        have g16_adS_fi : h16 (adS fi) = some ((r + 1, fi), .inr (4, [.int (nI fi), .int (fKi (S.2 fi)), .int (fTy (S.2 fi)), .int (fGr (S.2 fi)), .ref (na fi), .int (fCo (S.2 fi)), .int (fRe (S.2 fi)), .int (fDe (S.2 fi)), .int (nI (rq S (nI fi)))])) := kk8 _ _ _ f15_adS_fi (by simp; try omega)
        have kk16 : z_K (fun y => y = 6 ∨ y = 8 ∨ y = 10) h h16 := kk15.tr (kk8.mono (fun y z => by rcases z with z | z <;> simp [z]))
        have eW : valR MR S t n fi pi p R = .inl (F8, R) := by unfold valR; rw [if_neg ty0, if_neg ty1, if_neg ty2, if_pos ty, hX]; rfl
        have eZ1 : (rrR (valR MR S t n fi pi p R)).1 = R.1 := by rw [eW]; rfl
        have eZ2 : tbR (rrR (valR MR S t n fi pi p R)) = tbR R := by rw [eW]; rfl
        refine W.eq (g2 := F0 m 148 ls [.int (-1)]) rfl ?_
        refine lv_istore (lv' := [(5, .int (-1)), (4, .int (nI (sk t n p))), (0, .ref rd), (1, .ref (adS fi)), (2, .int (nI pi)), (3, .int (nI d))]) hx hb d_RecordReader_readValue_148 hl (by decide) rfl (fun ls hl => ?_)
        refine lv_iload hx hb d_RecordReader_readValue_150 (lv_at hl 0 rfl) ?_
        refine lv_iconst (v := (-1)) hx hb d_RecordReader_readValue_152 (by decide) ?_
        refine lv_icmp_eq (tgt := 180) hx hb d_RecordReader_readValue_153 (by decide) (fun c_153 => ?_) (fun c_153 => ?_)
        · -- 153: True
          refine lv_iconst (v := 0) hx hb d_RecordReader_readValue_180 (by decide) ?_
          exact z_zret hx hb hr rfl hlocks hw (by rw [eW]; exact ⟨kk16.mono (fun y z => by rcases z with z | z | z <;> simp [z]), ⟨_, g16_rd⟩, ⟨_, tr8, fb8, fun k hk => by simp at hk⟩, ⟨_, _, _, _, _, hN.k kk16 (by omega) (by omega) (by omega)⟩, hpa, rfl, ⟨_, _, _, _, e8, g8⟩⟩) (by first | exact Nat.le_of_ble_eq_true rfl | (dsimp only; omega) | omega) (by first | exact Nat.le_of_ble_eq_true rfl | (dsimp only; omega) | omega) d_RecordReader_readValue_181
        · -- 153: False
          exact absurd (by decide) c_153
      · -- text True
        rw [hX] at hp
        obtain ⟨r8, ⟨f8, w8, d8, e8⟩, le8, ⟨ft8, tr8, fb8, ht8⟩, ln8⟩ := hp
        subst r8
        obtain ⟨h17, e7⟩ : ∃ x9, x9 = h9 := ⟨_, rfl⟩
        subst e7
        have g17_rd : h17 rd = some ((8, 0), .inr (9, [.ref sc, .ref q, .ref w, .ref tr, .long 0])) := kk8 _ _ _ f15_rd (by simp; try omega)
        have g17_b : h17 b = some ((3, 0), .inl (g.2.1 0, len, .inl f)) := kk8 _ _ _ f15_b (by simp; try omega)
        have g17_adS_fi : h17 (adS fi) = some ((r + 1, fi), .inr (4, [.int (nI fi), .int (fKi (S.2 fi)), .int (fTy (S.2 fi)), .int (fGr (S.2 fi)), .ref (na fi), .int (fCo (S.2 fi)), .int (fRe (S.2 fi)), .int (fDe (S.2 fi)), .int (nI (rq S (nI fi)))])) := kk8 _ _ _ f15_adS_fi (by simp; try omega)
        have kk17 : z_K (fun y => y = 6 ∨ y = 8 ∨ y = 10) h h17 := kk15.tr (kk8.mono (fun y z => by rcases z with z | z <;> simp [z]))
        have tl8 := txR_len (fun k hk => (hf k hk).1) hX
        dsimp only at tl8 le8 ln8 ht8
        have eW : valR MR S t n fi pi p R = .inr (p8, addN R (nI fi, nI pi, 0, l8)) := by unfold valR; rw [if_neg ty0, if_neg ty1, if_neg ty2, if_pos ty, hX]; rfl
        have eZ1 : (rrR (valR MR S t n fi pi p R)).1 = R.1 + 1 := by rw [eW]; rfl
        have eZ2 : tbR (rrR (valR MR S t n fi pi p R)) = tbR R + l8.length := by rw [eW]; exact tbR_add R _
        refine W.eq (g2 := F0 m 148 ls [.int (nI l8.length)]) rfl ?_
        refine lv_istore (lv' := [(5, .int (nI l8.length)), (4, .int (nI (sk t n p))), (0, .ref rd), (1, .ref (adS fi)), (2, .int (nI pi)), (3, .int (nI d))]) hx hb d_RecordReader_readValue_148 hl (by decide) rfl (fun ls hl => ?_)
        refine lv_iload hx hb d_RecordReader_readValue_150 (lv_at hl 0 rfl) ?_
        refine lv_iconst (v := (-1)) hx hb d_RecordReader_readValue_152 (by decide) ?_
        refine lv_icmp_eq (tgt := 180) hx hb d_RecordReader_readValue_153 (by decide) (fun c_153 => ?_) (fun c_153 => ?_)
        · -- 153: True
          exact absurd c_153 (nI_ne1 (by omega))
        · -- 153: False
          refine lv_aload_n hx hb d_RecordReader_readValue_156 rfl (lv_at hl 2 rfl) ?_
          refine lv_aload_n hx hb d_RecordReader_readValue_157 rfl (lv_at hl 3 rfl) ?_
          refine lv_iload_n hx hb d_RecordReader_readValue_158 rfl (lv_at hl 4 rfl) ?_
          refine lv_aload_n hx hb d_RecordReader_readValue_159 rfl (lv_at hl 2 rfl) ?_
          refine z_get hx hb hts (z_lay i_RecordReader) hown hK hw g17_rd rfl 3 (by decide) (z_in k_505 rfl) (fun _ h9 => h9) rfl d_RecordReader_readValue_160 ?_
          refine lv_iload hx hb d_RecordReader_readValue_163 (lv_at hl 0 rfl) ?_
          refine z_callS (n := 2) (As := [.ref tr, .int (nI l8.length)]) (rest := [.int (nI pi), .ref (adS fi), .ref rd]) ⟨hx, hb, hml, hown, hts⟩ (c_JA_copyOf (tg := (mr + 2, R.1)) l g h17 tr8 (by omega) (by omega) fb8) (z_in k_600 rfl) (z_in k_14 rfl) (z_in k_598 rfl) (z_in k_599 rfl) (by decide +kernel) ⟨by first | exact Nat.le_of_ble_eq_true rfl | (dsimp only; omega) | omega, by first | exact Nat.le_of_ble_eq_true rfl | (dsimp only; omega) | omega⟩ hK hE hw hA rfl hl.1 (Nat.le_of_ble_eq_true rfl) d_RecordReader_readValue_165 ⟨by first | exact Nat.le_of_ble_eq_true rfl | (dsimp only; omega) | omega, by first | exact Nat.le_of_ble_eq_true rfl | (dsimp only; omega) | omega⟩ rfl (fun r9 h9 H locs hp hw => ?_)
          obtain ⟨tq, fq, r8, n_tq, c8, fb9, hh18⟩ := hp
          subst r8
          obtain ⟨h18, e6⟩ : ∃ x9, x9 = h9 := ⟨_, rfl⟩
          subst e6
          have ne_rd_tq : rd ≠ tq := fun z => by have z2 := g17_rd; rw [z, n_tq] at z2; cases z2
          have ne_sc_tq : sc ≠ tq := fun z => by have z2 := e8; rw [z, n_tq] at z2; cases z2
          have ne_b_tq : b ≠ tq := fun z => by have z2 := g17_b; rw [z, n_tq] at z2; cases z2
          have ne_tr_tq : tr ≠ tq := fun z => by have z2 := tr8; rw [z, n_tq] at z2; cases z2
          have ne_adS_fi_tq : (adS fi) ≠ tq := fun z => by have z2 := g17_adS_fi; rw [z, n_tq] at z2; cases z2
          have f18_rd : h18 rd = some ((8, 0), .inr (9, [.ref sc, .ref q, .ref w, .ref tr, .long 0])) := by rw [← hh18]; exact z_keepN n_tq g17_rd
          have f18_sc : h18 sc = some ((6, 0), .inr (7, [.ref b, .int (nI n), .int (nI p8), .int f8, .int w8, .int d8])) := by rw [← hh18]; exact z_keepN n_tq e8
          have f18_b : h18 b = some ((3, 0), .inl (g.2.1 0, len, .inl f)) := by rw [← hh18]; exact z_keepN n_tq g17_b
          have f18_tr : h18 tr = some ((10, 0), .inl (g.2.1 0, 255, .inl ft8)) := by rw [← hh18]; exact z_keepN n_tq tr8
          have f18_adS_fi : h18 (adS fi) = some ((r + 1, fi), .inr (4, [.int (nI fi), .int (fKi (S.2 fi)), .int (fTy (S.2 fi)), .int (fGr (S.2 fi)), .ref (na fi), .int (fCo (S.2 fi)), .int (fRe (S.2 fi)), .int (fDe (S.2 fi)), .int (nI (rq S (nI fi)))])) := by rw [← hh18]; exact z_keepN n_tq g17_adS_fi
          have f18_tq : h18 tq = some ((mr + 2, R.1), .inl (g.2.1 0, l8.length, .inl fq)) := by rw [← hh18]; exact z_put_eq
          have kk18 : z_K (fun y => y = 6 ∨ y = 8 ∨ y = 10) h h18 := kk17.tr (by rw [← hh18]; exact z_K.new n_tq)
          have kkq := kk18
          have hq9 : ∀ k, k < l8.length → l8.getD k 0 < 256 ∧ fq k = sb_b (l8.getD k 0) := fun k hk => by rw [c8 k hk (by omega)]; exact ht8 k hk
          refine W.eq (g2 := F0 m 168 ls [.ref tq, .int (nI pi), .ref (adS fi), .ref rd]) rfl ?_
          refine lv_iload hx hb d_RecordReader_readValue_168 (lv_at hl 1 rfl) ?_
          refine z_callV (n := 4) (As := [.ref (adS fi), .int (nI pi), .ref tq, .int (nI (sk t n p))]) (rest := []) ⟨hx, hb, hml, hown, hts⟩ (c_keepT (S := S) (nu9 := 0) l g h18 f18_rd f18_adS_fi f18_tq (hN.k kkq (by omega) (by omega) (by omega)) hpa hpi9 (by omega) (by omega) hm (by omega) rfl (by omega) ⟨by omega, hq9⟩) (z_in k_555 rfl) (z_in k_18 rfl) (z_in k_552 rfl) (z_in k_554 rfl) (z_in ks_10 rfl) (by decide +kernel) ⟨by first | exact Nat.le_of_ble_eq_true rfl | (dsimp only; omega) | omega, by first | exact Nat.le_of_ble_eq_true rfl | (dsimp only; omega) | omega⟩ hK hE hw hA rfl f18_rd rfl hl.1 (Nat.le_of_ble_eq_true rfl) d_RecordReader_readValue_170 ⟨by first | exact Nat.le_of_ble_eq_true rfl | (dsimp only; omega) | omega, by first | exact Nat.le_of_ble_eq_true rfl | (dsimp only; omega) | omega⟩ rfl (fun r9 h9 H locs hp hw => ?_)
          obtain ⟨nn, r8, n8, pa8, k8⟩ := hp
          subst r8
          obtain ⟨h19, e7⟩ : ∃ x9, x9 = h9 := ⟨_, rfl⟩
          subst e7
          have g19_rd : h19 rd = some ((8, 0), .inr (9, [.ref sc, .ref q, .ref w, .ref tr, .long 0])) := k8 _ _ _ f18_rd (by simp; omega)
          have g19_sc : h19 sc = some ((6, 0), .inr (7, [.ref b, .int (nI n), .int (nI p8), .int f8, .int w8, .int d8])) := k8 _ _ _ f18_sc (by simp; omega)
          have g19_b : h19 b = some ((3, 0), .inl (g.2.1 0, len, .inl f)) := k8 _ _ _ f18_b (by simp; omega)
          have g19_tr : h19 tr = some ((10, 0), .inl (g.2.1 0, 255, .inl ft8)) := k8 _ _ _ f18_tr (by simp; omega)
          have g19_adS_fi : h19 (adS fi) = some ((r + 1, fi), .inr (4, [.int (nI fi), .int (fKi (S.2 fi)), .int (fTy (S.2 fi)), .int (fGr (S.2 fi)), .ref (na fi), .int (fCo (S.2 fi)), .int (fRe (S.2 fi)), .int (fDe (S.2 fi)), .int (nI (rq S (nI fi)))])) := k8 _ _ _ f18_adS_fi (by simp; omega)
          have kkF : z_K (fun y => y = 6 ∨ y = 8 ∨ y = 10 ∨ y = mr ∨ y = mr + 1) h h19 := (kk18.mono (fun y z => by rcases z with z | z | z <;> simp [z])).tr (k8.K (fun t z => by rcases z with z | z | z | z <;> simp [z]))
          have tb8 := tbR_add R (nI fi, nI pi, 0, l8)
          dsimp only [ndTx] at tb8
          skip
          have sz8 : (addN R (nI fi, nI pi, 0, l8)).1 = R.1 + 1 := rfl
          have hw8 := n8.1
          refine W.eq (g2 := F0 m 173 ls [.int 1]) rfl ?_
          refine lv_if_eq (tgt := 180) hx hb d_RecordReader_readValue_173 (by decide) (fun c_173 => ?_) (fun c_173 => ?_)
          · -- 173: True
            exact absurd c_173 (by decide)
          · -- 173: False
            refine lv_iconst (v := 1) hx hb d_RecordReader_readValue_176 (by decide) ?_
            refine lv_goto (tgt := 181) hx hb d_RecordReader_readValue_177 (by decide) ?_
            exact z_zret hx hb hr rfl hlocks hw (by rw [eW]; exact ⟨kkF, ⟨_, g19_rd⟩, ⟨_, g19_tr, fb8, fun k hk => by simp at hk⟩, ⟨_, _, _, _, _, n8⟩, pa8, rfl, ⟨_, _, _, g19_sc⟩, le8, by dsimp only; omega, by dsimp only; omega⟩) (by first | exact Nat.le_of_ble_eq_true rfl | (dsimp only; omega) | omega) (by first | exact Nat.le_of_ble_eq_true rfl | (dsimp only; omega) | omega) d_RecordReader_readValue_181
    | k + 4, c_21, d_21 => exact absurd c_21 (by omega)

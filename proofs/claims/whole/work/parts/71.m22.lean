set_option maxHeartbeats 300000 in
set_option maxRecDepth 100000 in
theorem m_isWhole (l : Launch) (g : z_G) (h : z_H) {mo : Nat} {T : List Nat} {S : Sch} {R : Rec} {O : List Nat}   (hM : MAt g h mo T S R O) (hs8 : S.1 ≤ 128) (hR2 : R.1 ≤ 2000) (hR1 : 0 < R.1) (hpa : paOK R) (hfo : fiO2 S R) (ho : ordOK S R) (hg : gpOK S R) (hgt : gtOK S) : z_C l y_M_isWhole prog_13_method_47_code 1 (Option.some Jvm.ClassFile.FieldType.boolean) 1 60 0 0 g [.ref mo] h (fun x h1 => MPt g h x (.int (zb (oIsWhole S R))) h1 mo T S R O) := by
  refine z_C.of (by decide) (Nat.le_of_ble_eq_true rfl) (fun pg en s m below meth cd A ls hx hb hml hr hts hown hlocks hnm hK hE hA hw hl => ?_)
  have hl : lv_has ls 1 [(0, .ref mo)] := hl
  obtain ⟨ma, cod, siz, ffl, fcl, at9, il, hmo, hTp, hTx, ⟨rw9, rf, lf, hSc⟩, hSf, ⟨nf, np, nr, ns, nv, tx, hNd⟩, hOl, hOu⟩ := id hM
  obtain ⟨ftp, htp, hT4, hTv⟩ := id hTp
  obtain ⟨fou, hou, hO6, hOv⟩ := id hOu
  have kk0 : z_K (fun y => y = 20) h h := z_K.rf
  refine lv_aload_n hx hb d_M_isWhole_0 rfl (lv_at hl 0 rfl) ?_
  refine lv_iconst (v := 0) hx hb d_M_isWhole_1 (by decide) ?_
  refine z_putf (ty := .int) hx hb hts (z_lay i_M) t_M t_M_ok n_M hown hK hw hmo rfl 0 (by decide) (z_in k_771 rfl) (fun _ h9 => h9) rfl (by decide +kernel) rfl rfl (Nat.le_of_ble_eq_true rfl) d_M_isWhole_2 (fun H locs hw => ?_)
  obtain ⟨h1, hh1⟩ : ∃ x9, z_put h mo (20, 0) (.inr (11, mF ma 0 (nI T.length) siz (nI S.1) (nI (cc S)) ffl fcl (nI R.1) (nI (tbC R.2 R.1)) (nI O.length) at9 il)) = x9 := ⟨_, rfl⟩
  have hw : z_S g A s.heap h1 H locs := by rw [← hh1]; exact hw
  have f1_mo : h1 mo = some ((20, 0), .inr (11, mF ma 0 (nI T.length) siz (nI S.1) (nI (cc S)) ffl fcl (nI R.1) (nI (tbC R.2 R.1)) (nI O.length) at9 il)) := by rw [← hh1]; exact z_put_eq
  have kk1 : z_K (fun y => y = 20) h h1 := kk0.tr (by rw [← hh1]; exact z_K.put hmo (by first | decide | simp | omega))
  refine lv_aload_n hx hb d_M_isWhole_5 rfl (lv_at hl 0 rfl) ?_
  refine z_callV (n := 0) (As := []) (rest := []) ⟨hx, hb, hml, hown, hts⟩ (m_whole l g h1 f1_mo (hSc.k kk1 (by omega) (by omega) (by omega)) (hNd.k kk1 (by omega) (by omega) (by omega)) hs8 hR2 hR1 hpa hfo) (z_in k_1057 rfl) (z_in k_7 rfl) (z_in k_1054 rfl) (z_in k_1056 rfl) (z_in ks_51 rfl) (by decide +kernel) ⟨by first | exact Nat.le_of_ble_eq_true rfl | (dsimp only; omega) | omega, by first | exact Nat.le_of_ble_eq_true rfl | (dsimp only; omega) | omega⟩ hK hE hw hA rfl f1_mo rfl hl.1 (Nat.le_of_ble_eq_true rfl) d_M_isWhole_6 ⟨by first | exact Nat.le_of_ble_eq_true rfl | (dsimp only; omega) | omega, by first | exact Nat.le_of_ble_eq_true rfl | (dsimp only; omega) | omega⟩ rfl (fun r9 h9 H locs hp hw => ?_)
  obtain ⟨r8, h8⟩ := hp
  subst r8
  subst h8
  refine W.eq (g2 := F0 m 9 ls [.int (zb (whM S R))]) rfl ?_
  exact z_zret hx hb hr (zb_n _) hlocks hw (by refine ⟨congrArg some (congrArg Value.int ?_), ⟨ma, _, _, _, _, _, _, f1_mo, hTp.k kk1 (by omega), hTx.k kk1 (by omega), ⟨_, _, _, hSc.k kk1 (by omega) (by omega) (by omega)⟩, hSf.k kk1 (by omega) (by omega) (by omega), ⟨_, _, _, _, _, _, hNd.k kk1 (by omega) (by omega) (by omega)⟩, hOl.k kk1 (by omega) (by omega) (by omega), hOu.k kk1 (by omega)⟩, kk1.mono (fun y z => by unfold KMr; omega)⟩; rw [whM_is hs8 hR2 hpa hfo ho hg hgt]) (by decide) (by decide) d_M_isWhole_9

theorem MOu.add {g : z_G} {h1 : z_H} {ma : Nat → Nat} {O : List Nat} {f : Nat → Int32} {b : Nat} (h0 : ∀ k, k < O.length → O.getD k 0 < 256 ∧ f k = nI (O.getD k 0)) (c : h1 (ma 18) = some ((35, 0), .inl (g.2.1 1, 160000, .inl (upd f O.length (nI b))))) (hl : O.length < 160000) (hb : b < 256) : MOu g h1 ma (O ++ [b]) := by
  have e : (O ++ [b]).length = O.length + 1 := by simp
  refine ⟨_, c, by omega, fun k hk => ?_⟩
  rw [e] at hk
  by_cases z : k < O.length
  · have e3 : (O ++ [b]).getD k 0 = O.getD k 0 := by simp only [List.getD_eq_getElem?_getD]; rw [List.getElem?_append_left z]
    rw [e3, pk_un (by omega)]; exact h0 k z
  · have e4 : k = O.length := by omega
    subst e4
    have e3 : (O ++ [b]).getD O.length 0 = b := by simp
    rw [e3, pk_us]; exact ⟨hb, rfl⟩
theorem len_snoc {O : List Nat} {b : Nat} : (O ++ [b]).length = O.length + 1 := by simp

set_option maxHeartbeats 300000 in
set_option maxRecDepth 100000 in
theorem m_put (l : Launch) (g : z_G) (h : z_H) {mo : Nat} {ma : Nat → Nat} {cod tpd fls cls9 ffl fcl nds sai il : Int32} {siz at9 : Int32} {O : List Nat} {b9 : Nat} (hmo : h mo = some ((20, 0), .inr (11, mF ma cod tpd siz fls cls9 ffl fcl nds sai (nI O.length) at9 il))) (hOu : MOu g h ma O) (hb9 : b9 < 256) (hl9 : O.length < 160000) : z_C l y_M_put prog_13_method_48_code 2 (Option.none : Option Jvm.ClassFile.FieldType) 0 0 0 0 g [.ref mo, .int (nI b9)] h (fun x h1 => x = none ∧ h1 mo = some ((20, 0), .inr (11, mF ma cod tpd siz fls cls9 ffl fcl nds sai (nI ((O ++ ([b9])).length)) at9 il)) ∧ MOu g h1 ma (O ++ ([b9])) ∧ z_K (fun y => y = 20 ∨ y = 35) h h1) := by
  refine z_C.of (by decide) (Nat.le_of_ble_eq_true rfl) (fun pg en s m below meth cd A ls hx hb hml hr hts hown hlocks hnm hK hE hA hw hl => ?_)
  have hl : lv_has ls 2 [(0, .ref mo), (1, .int (nI b9))] := hl
  obtain ⟨fou, hou, hO6, hOv⟩ := id hOu
  have kk0 : z_K (fun y => y = 20 ∨ y = 35) h h := z_K.rf
  refine lv_aload_n hx hb d_M_put_0 rfl (lv_at hl 0 rfl) ?_
  refine z_get hx hb hts (z_lay i_M) hown hK hw hmo rfl 27 (by decide) (z_in k_798 rfl) (fun _ h9 => h9) rfl d_M_put_1 ?_
  refine lv_aload_n hx hb d_M_put_4 rfl (lv_at hl 0 rfl) ?_
  refine z_get hx hb hts (z_lay i_M) hown hK hw hmo rfl 28 (by decide) (z_in k_799 rfl) (fun _ h9 => h9) rfl d_M_put_5 ?_
  refine lv_iload_n hx hb d_M_put_8 rfl (lv_at hl 1 rfl) ?_
  refine z_iast hx hb hK hw hou 1 rfl (vp_in_nI (by omega) (by omega)) d_M_put_9 (fun H locs hw => ?_)
  rw [nI_clamp (by omega)] at hw
  obtain ⟨h1, hh1⟩ : ∃ x9, z_put h (ma 18) (35, 0) (.inl (g.2.1 1, 160000, .inl (upd fou O.length (nI b9)))) = x9 := ⟨_, rfl⟩
  have hw : z_S g A s.heap h1 H locs := by rw [← hh1]; exact hw
  have f1_mo : h1 mo = some ((20, 0), .inr (11, mF ma cod tpd siz fls cls9 ffl fcl nds sai (nI O.length) at9 il)) := by rw [← hh1]; exact z_keep hou hmo (z_t1 (by decide))
  have f1_ma_18 : h1 (ma 18) = some ((35, 0), .inl (g.2.1 1, 160000, .inl (upd fou O.length (nI b9)))) := by rw [← hh1]; exact z_put_eq
  have kk1 : z_K (fun y => y = 20 ∨ y = 35) h h1 := kk0.tr (by rw [← hh1]; exact z_K.put hou (by first | decide | simp | omega))
  refine lv_aload_n hx hb d_M_put_10 rfl (lv_at hl 0 rfl) ?_
  refine lv_dup hx hb d_M_put_11 rfl ?_
  refine z_get hx hb hts (z_lay i_M) hown hK hw f1_mo rfl 28 (by decide) (z_in k_799 rfl) (fun _ h9 => h9) rfl d_M_put_12 ?_
  refine lv_iconst (v := 1) hx hb d_M_put_15 (by decide) ?_
  refine lv_iadd hx hb d_M_put_16 ?_
  refine z_topi (y := nI (O.length + 1)) (nI_add O.length 1) ?_
  refine z_putf (ty := .int) hx hb hts (z_lay i_M) t_M t_M_ok n_M hown hK hw f1_mo rfl 28 (by decide) (z_in k_799 rfl) (fun _ h9 => h9) rfl (by decide +kernel) rfl rfl (Nat.le_of_ble_eq_true rfl) d_M_put_17 (fun H locs hw => ?_)
  obtain ⟨h2, hh2⟩ : ∃ x9, z_put h1 mo (20, 0) (.inr (11, mF ma cod tpd siz fls cls9 ffl fcl nds sai (nI (O.length + 1)) at9 il)) = x9 := ⟨_, rfl⟩
  have hw : z_S g A s.heap h2 H locs := by rw [← hh2]; exact hw
  have f2_mo : h2 mo = some ((20, 0), .inr (11, mF ma cod tpd siz fls cls9 ffl fcl nds sai (nI (O.length + 1)) at9 il)) := by rw [← hh2]; exact z_put_eq
  have f2_ma_18 : h2 (ma 18) = some ((35, 0), .inl (g.2.1 1, 160000, .inl (upd fou O.length (nI b9)))) := by rw [← hh2]; exact z_keep f1_mo f1_ma_18 (z_t1 (by decide))
  have kk2 : z_K (fun y => y = 20 ∨ y = 35) h h2 := kk1.tr (by rw [← hh2]; exact z_K.put f1_mo (by first | decide | simp | omega))
  exact z_vret hx hb hr hlocks hw ⟨rfl, by rw [len_snoc]; exact f2_mo, MOu.add hOv f2_ma_18 hl9 hb9, kk2⟩ (by decide) (by decide) d_M_put_20

set_option maxHeartbeats 300000 in
set_option maxRecDepth 100000 in
theorem m_putHex (l : Launch) (g : z_G) (h : z_H) {mo : Nat} {ma : Nat → Nat} {cod tpd fls cls9 ffl fcl nds sai il : Int32} {siz at9 : Int32} {O : List Nat} {d9 : Nat} (hmo : h mo = some ((20, 0), .inr (11, mF ma cod tpd siz fls cls9 ffl fcl nds sai (nI O.length) at9 il))) (hOu : MOu g h ma O) (hl9 : O.length + ([hxO d9]).length ≤ 160000) (hd9 : d9 < 16) : z_C l y_M_putHex prog_13_method_50_code 2 (Option.none : Option Jvm.ClassFile.FieldType) 1 40 0 0 g [.ref mo, .int (nI d9)] h (fun x h1 => x = none ∧ h1 mo = some ((20, 0), .inr (11, mF ma cod tpd siz fls cls9 ffl fcl nds sai (nI ((O ++ ([hxO d9])).length)) at9 il)) ∧ MOu g h1 ma (O ++ ([hxO d9])) ∧ z_K (fun y => y = 20 ∨ y = 35) h h1) := by
  refine z_C.of (by decide) (Nat.le_of_ble_eq_true rfl) (fun pg en s m below meth cd A ls hx hb hml hr hts hown hlocks hnm hK hE hA hw hl => ?_)
  have hl : lv_has ls 2 [(0, .ref mo), (1, .int (nI d9))] := hl
  have l1 : ([hxO d9] : List Nat).length = 1 := rfl
  have kk0 : z_K (fun y => y = 20 ∨ y = 35) h h := z_K.rf
  refine lv_aload_n hx hb d_M_putHex_0 rfl (lv_at hl 0 rfl) ?_
  refine lv_iload_n hx hb d_M_putHex_1 rfl (lv_at hl 1 rfl) ?_
  refine lv_bipush (v := 10) hx hb d_M_putHex_2 (by decide) ?_
  refine lv_icmp_ge (tgt := 14) hx hb d_M_putHex_4 (by decide) (fun c_4 => ?_) (fun c_4 => ?_)
  · -- 4: True
    have c_4 : 10 ≤ d9 := (nI_leI (a := 10) (b := d9) (by omega) (by omega)).mp c_4
    refine lv_bipush (v := 97) hx hb d_M_putHex_14 (by decide) ?_
    refine lv_iload_n hx hb d_M_putHex_16 rfl (lv_at hl 1 rfl) ?_
    refine lv_iadd hx hb d_M_putHex_17 ?_
    refine z_topi (y := nI (97 + d9)) (nI_add 97 d9) ?_
    refine lv_bipush (v := 10) hx hb d_M_putHex_18 (by decide) ?_
    refine lv_isub hx hb d_M_putHex_20 ?_
    refine z_topi (y := nI (87 + d9)) (by rw [show 87 + d9 = 97 + d9 - 10 by omega]; exact pk_sub (a := 97 + d9) (b := 10) (by omega)) ?_
    have ln_1 : (O ++ ([87 + d9])).length = O.length + ([87 + d9]).length := List.length_append
    simp only [List.length_cons, List.length_nil] at ln_1
    refine z_callV (n := 1) (As := [.int (nI (87 + d9))]) (rest := []) ⟨hx, hb, hml, hown, hts⟩ (m_put (O := O) (b9 := 87 + d9) l g h hmo hOu (by omega) (by omega)) (z_in k_1069 rfl) (z_in k_7 rfl) (z_in k_1066 rfl) (z_in k_1068 rfl) (z_in ks_53 rfl) (by decide +kernel) ⟨by first | exact Nat.le_of_ble_eq_true rfl | (dsimp only; omega) | omega, by first | exact Nat.le_of_ble_eq_true rfl | (dsimp only; omega) | omega⟩ hK hE hw hA rfl hmo rfl hl.1 (Nat.le_of_ble_eq_true rfl) d_M_putHex_21 ⟨by first | exact Nat.le_of_ble_eq_true rfl | (dsimp only; omega) | omega, by first | exact Nat.le_of_ble_eq_true rfl | (dsimp only; omega) | omega⟩ rfl (fun r9 h9 H locs hp hw => ?_)
    obtain ⟨r8, m8, o8, k8⟩ := hp
    subst r8
    obtain ⟨h1, e7⟩ : ∃ x9, x9 = h9 := ⟨_, rfl⟩
    subst e7
    generalize eO_1 : O ++ ([87 + d9]) = O_1 at m8 o8 ln_1
    have oh_1 := o8
    have mh_1 := m8
    have kk1 : z_K (fun y => y = 20 ∨ y = 35) h h1 := kk0.tr k8
    refine W.eq (g2 := F0 m 24 ls []) rfl ?_
    have eF : O ++ ([hxO d9]) = O_1 := by rw [← eO_1]; unfold hxO; rw [if_neg (show ¬ d9 < 10 by omega)]
    exact z_vret hx hb hr hlocks hw ⟨rfl, by rw [eF]; exact mh_1, eF ▸ oh_1, kk1⟩ (by decide) (by decide) d_M_putHex_24
  · -- 4: False
    have c_4 : ¬ (10 ≤ d9) := fun z => c_4 ((nI_leI (a := 10) (b := d9) (by omega) (by omega)).mpr z)
    refine lv_bipush (v := 48) hx hb d_M_putHex_7 (by decide) ?_
    refine lv_iload_n hx hb d_M_putHex_9 rfl (lv_at hl 1 rfl) ?_
    refine lv_iadd hx hb d_M_putHex_10 ?_
    refine z_topi (y := nI (48 + d9)) (nI_add 48 d9) ?_
    refine lv_goto (tgt := 21) hx hb d_M_putHex_11 (by decide) ?_
    have ln_2 : (O ++ ([48 + d9])).length = O.length + ([48 + d9]).length := List.length_append
    simp only [List.length_cons, List.length_nil] at ln_2
    refine z_callV (n := 1) (As := [.int (nI (48 + d9))]) (rest := []) ⟨hx, hb, hml, hown, hts⟩ (m_put (O := O) (b9 := 48 + d9) l g h hmo hOu (by omega) (by omega)) (z_in k_1069 rfl) (z_in k_7 rfl) (z_in k_1066 rfl) (z_in k_1068 rfl) (z_in ks_53 rfl) (by decide +kernel) ⟨by first | exact Nat.le_of_ble_eq_true rfl | (dsimp only; omega) | omega, by first | exact Nat.le_of_ble_eq_true rfl | (dsimp only; omega) | omega⟩ hK hE hw hA rfl hmo rfl hl.1 (Nat.le_of_ble_eq_true rfl) d_M_putHex_21 ⟨by first | exact Nat.le_of_ble_eq_true rfl | (dsimp only; omega) | omega, by first | exact Nat.le_of_ble_eq_true rfl | (dsimp only; omega) | omega⟩ rfl (fun r9 h9 H locs hp hw => ?_)
    obtain ⟨r8, m8, o8, k8⟩ := hp
    subst r8
    obtain ⟨h2, e7⟩ : ∃ x9, x9 = h9 := ⟨_, rfl⟩
    subst e7
    generalize eO_2 : O ++ ([48 + d9]) = O_2 at m8 o8 ln_2
    have oh_2 := o8
    have mh_2 := m8
    have kk2 : z_K (fun y => y = 20 ∨ y = 35) h h2 := kk0.tr k8
    refine W.eq (g2 := F0 m 24 ls []) rfl ?_
    have eF : O ++ ([hxO d9]) = O_2 := by rw [← eO_2]; unfold hxO; rw [if_pos (show d9 < 10 by omega)]
    exact z_vret hx hb hr hlocks hw ⟨rfl, by rw [eF]; exact mh_2, eF ▸ oh_2, kk2⟩ (by decide) (by decide) d_M_putHex_24

set_option maxHeartbeats 2000000 in
set_option maxRecDepth 100000 in
theorem m_putText (l : Launch) (g : z_G) (h : z_H) {mo : Nat} {ma : Nat → Nat} {cod tpd fls cls9 ffl fcl nds sai il : Int32} {siz at9 : Int32} {O : List Nat} {R : Rec} {nf np nr ns : Nat → Int32} {nv : Nat → Int64} {tx : Nat → Int32} {i : Nat} (hmo : h mo = some ((20, 0), .inr (11, mF ma cod tpd siz fls cls9 ffl fcl nds sai (nI O.length) at9 il))) (hOu : MOu g h ma O) (hl9 : O.length + (txO (ndTx (R.2 i))).length ≤ 160000) (hNd : MNp g h ma R nf np nr ns nv tx) (hi : i < R.1) (hi0 : 0 < i) (hR2 : R.1 ≤ 2000) (htb9 : tbC R.2 R.1 ≤ 16000) (hby : ∀ k, k < (ndTx (R.2 i)).length → (ndTx (R.2 i)).getD k 0 < 256) : z_C l y_M_putText prog_13_method_51_code 4 (Option.none : Option Jvm.ClassFile.FieldType) 2 80 0 0 g [.ref mo, .int (nI i)] h (fun x h1 => x = none ∧ h1 mo = some ((20, 0), .inr (11, mF ma cod tpd siz fls cls9 ffl fcl nds sai (nI ((O ++ (txO (ndTx (R.2 i)))).length)) at9 il)) ∧ MOu g h1 ma (O ++ (txO (ndTx (R.2 i)))) ∧ z_K (fun y => y = 20 ∨ y = 35) h h1) := by
  refine z_C.of (by decide) (Nat.le_of_ble_eq_true rfl) (fun pg en s m below meth cd A ls hx hb hml hr hts hown hlocks hnm hK hE hA hw hl => ?_)
  have hl : lv_has ls 4 [(0, .ref mo), (1, .int (nI i))] := hl
  have lT : (txO (ndTx (R.2 i))).length = 1 + (tlO (ndTx (R.2 i))).length + 1 := by unfold txO; rw [List.length_append, List.length_append]; rfl
  have hti := (hNd.2.2.2.2.2.2 i hi).2.2 hi0
  have hin := tbC_in R.2 hi
  have kk0 : z_K (fun y => y = 20 ∨ y = 35) h h := z_K.rf
  refine lv_aload_n hx hb d_M_putText_0 rfl (lv_at hl 0 rfl) ?_
  refine lv_bipush (v := 39) hx hb d_M_putText_1 (by decide) ?_
  have ln_1 : (O ++ ([39])).length = O.length + ([39]).length := List.length_append
  simp only [List.length_cons, List.length_nil] at ln_1
  refine z_callV (n := 1) (As := [.int 39]) (rest := []) ⟨hx, hb, hml, hown, hts⟩ (m_put (O := O) (b9 := 39) l g h hmo hOu (by omega) (by omega)) (z_in k_1069 rfl) (z_in k_7 rfl) (z_in k_1066 rfl) (z_in k_1068 rfl) (z_in ks_53 rfl) (by decide +kernel) ⟨by first | exact Nat.le_of_ble_eq_true rfl | (dsimp only; omega) | omega, by first | exact Nat.le_of_ble_eq_true rfl | (dsimp only; omega) | omega⟩ hK hE hw hA rfl hmo rfl hl.1 (Nat.le_of_ble_eq_true rfl) d_M_putText_3 ⟨by first | exact Nat.le_of_ble_eq_true rfl | (dsimp only; omega) | omega, by first | exact Nat.le_of_ble_eq_true rfl | (dsimp only; omega) | omega⟩ rfl (fun r9 h9 H locs hp hw => ?_)
  obtain ⟨r8, m8, o8, k8⟩ := hp
  subst r8
  obtain ⟨h1, e7⟩ : ∃ x9, x9 = h9 := ⟨_, rfl⟩
  subst e7
  generalize eO_1 : O ++ ([39]) = O_1 at m8 o8 ln_1
  have oh_1 := o8
  have mh_1 := m8
  have g1_ma_8 : h1 (ma 8) = some ((29, 2), .inl (g.2.1 1, 2000, .inl nr)) := k8 _ _ _ hNd.2.2.1 (by simp; try omega)
  have g1_ma_9 : h1 (ma 9) = some ((29, 3), .inl (g.2.1 1, 2000, .inl ns)) := k8 _ _ _ hNd.2.2.2.1 (by simp; try omega)
  have g1_ma_11 : h1 (ma 11) = some ((31, 0), .inl (g.2.1 1, 16000, .inl tx)) := k8 _ _ _ hNd.2.2.2.2.2.1 (by simp; try omega)
  have kk1 : z_K (fun y => y = 20 ∨ y = 35) h h1 := kk0.tr k8
  refine W.eq (g2 := F0 m 6 ls []) rfl ?_
  refine lv_iconst (v := 0) hx hb d_M_putText_6 (by decide) ?_
  refine lv_istore_n (lv' := [(2, .int 0), (0, .ref mo), (1, .int (nI i))]) hx hb d_M_putText_7 rfl hl (by decide) rfl (fun ls hl => ?_)
  have loop_8 : ∀ (fuel : Nat) (k1 : Nat) (O1 : List Nat) (hL : z_H) (H : Heap) (locs : List Loc) (ls : Array Slot) (L8_mo : hL mo = some ((20, 0), .inr (11, mF ma cod tpd siz fls cls9 ffl fcl nds sai (nI O1.length) at9 il))) (L8_ma_8 : hL (ma 8) = some ((29, 2), .inl (g.2.1 1, 2000, .inl nr))) (L8_ma_9 : hL (ma 9) = some ((29, 3), .inl (g.2.1 1, 2000, .inl ns))) (L8_ma_11 : hL (ma 11) = some ((31, 0), .inl (g.2.1 1, 16000, .inl tx))) (kkL : z_K (fun y => y = 20 ∨ y = 35) h hL) (oh1 : MOu g hL ma O1) (le1 : k1 ≤ (ndTx (R.2 i)).length ∧ O1 = O ++ ([39] ++ tlO ((ndTx (R.2 i)).take k1))), ((ndTx (R.2 i)).length - k1) < fuel → z_S g A s.heap hL H locs → lv_has ls 4 [(0, .ref mo), (1, .int (nI i)), (2, .int (nI k1))] → W pg l en { frames := 2, cells := 0, slots := 0, locals := 80 } s m [.ref mo, .int (nI i)].toArray below meth cd H locs 0 0 (MQ below (z_Q g A (fun x h1 => x = none ∧ h1 mo = some ((20, 0), .inr (11, mF ma cod tpd siz fls cls9 ffl fcl nds sai (nI ((O ++ (txO (ndTx (R.2 i)))).length)) at9 il)) ∧ MOu g h1 ma (O ++ (txO (ndTx (R.2 i)))) ∧ z_K (fun y => y = 20 ∨ y = 35) h h1)) [.ref mo, .int (nI i)].toArray s 0 0 A) (F0 m 8 ls []) := by
    intro fuel
    induction fuel with
    | zero => intro k1 O1 hL H locs ls L8_mo L8_ma_8 L8_ma_9 L8_ma_11 kkL oh1 le1 hm; exact absurd hm (Nat.not_lt_zero _)
    | succ fuel ih_8 =>
      intro k1 O1 hL H locs ls L8_mo L8_ma_8 L8_ma_9 L8_ma_11 kkL oh1 le1 hm hw hl
      have ll1 : O1.length = O.length + (1 + (tlO ((ndTx (R.2 i)).take k1)).length) := by rw [le1.2, List.length_append, List.length_append]; rfl
      have ll2 := tlO_take (ndTx (R.2 i)) k1
      refine lv_iload_n hx hb d_M_putText_8 rfl (lv_at hl 2 rfl) ?_
      refine lv_aload_n hx hb d_M_putText_9 rfl (lv_at hl 0 rfl) ?_
      refine z_get hx hb hts (z_lay i_M) hown hK hw L8_mo rfl 16 (by decide) (z_in k_787 rfl) (fun _ h9 => h9) rfl d_M_putText_10 ?_
      refine lv_iload_n hx hb d_M_putText_13 rfl (lv_at hl 1 rfl) ?_
      refine z_iald hx hb hK hw L8_ma_9 1 rfl (vp_in_nI (by omega) (by omega)) d_M_putText_14 ?_
      refine z_topi (y := ns i) (by rw [nI_clamp (by omega)]) ?_
      refine z_top (y := .int (nI ((ndTx (R.2 i)).length))) (by rw [hti.2.1]) ?_
      refine lv_icmp_ge (tgt := 104) hx hb d_M_putText_15 (by decide) (fun c_15 => ?_) (fun c_15 => ?_)
      · -- 15: True
        have c_15 : ((ndTx (R.2 i)).length) ≤ k1 := (nI_leI (a := (ndTx (R.2 i)).length) (b := k1) (by omega) (by omega)).mp c_15
        refine lv_aload_n hx hb d_M_putText_104 rfl (lv_at hl 0 rfl) ?_
        refine lv_bipush (v := 39) hx hb d_M_putText_105 (by decide) ?_
        have ln_2 : (O1 ++ ([39])).length = O1.length + ([39]).length := List.length_append
        simp only [List.length_cons, List.length_nil] at ln_2
        refine z_callV (n := 1) (As := [.int 39]) (rest := []) ⟨hx, hb, hml, hown, hts⟩ (m_put (O := O1) (b9 := 39) l g hL L8_mo oh1 (by omega) (by omega)) (z_in k_1069 rfl) (z_in k_7 rfl) (z_in k_1066 rfl) (z_in k_1068 rfl) (z_in ks_53 rfl) (by decide +kernel) ⟨by first | exact Nat.le_of_ble_eq_true rfl | (dsimp only; omega) | omega, by first | exact Nat.le_of_ble_eq_true rfl | (dsimp only; omega) | omega⟩ hK hE hw hA rfl L8_mo rfl hl.1 (Nat.le_of_ble_eq_true rfl) d_M_putText_107 ⟨by first | exact Nat.le_of_ble_eq_true rfl | (dsimp only; omega) | omega, by first | exact Nat.le_of_ble_eq_true rfl | (dsimp only; omega) | omega⟩ rfl (fun r9 h9 H locs hp hw => ?_)
        obtain ⟨r8, m8, o8, k8⟩ := hp
        subst r8
        obtain ⟨h2, e7⟩ : ∃ x9, x9 = h9 := ⟨_, rfl⟩
        subst e7
        generalize eO_2 : O1 ++ ([39]) = O_2 at m8 o8 ln_2
        have oh_2 := o8
        have mh_2 := m8
        have g2_ma_8 : h2 (ma 8) = some ((29, 2), .inl (g.2.1 1, 2000, .inl nr)) := k8 _ _ _ L8_ma_8 (by simp; try omega)
        have g2_ma_9 : h2 (ma 9) = some ((29, 3), .inl (g.2.1 1, 2000, .inl ns)) := k8 _ _ _ L8_ma_9 (by simp; try omega)
        have g2_ma_11 : h2 (ma 11) = some ((31, 0), .inl (g.2.1 1, 16000, .inl tx)) := k8 _ _ _ L8_ma_11 (by simp; try omega)
        have kk2 : z_K (fun y => y = 20 ∨ y = 35) h h2 := kkL.tr k8
        refine W.eq (g2 := F0 m 110 ls []) rfl ?_
        have eF : O ++ (txO (ndTx (R.2 i))) = O_2 := by rw [← eO_2]; rw [le1.2, show k1 = (ndTx (R.2 i)).length by omega, List.take_length]; simp [txO]
        exact z_vret hx hb hr hlocks hw ⟨rfl, by rw [eF]; exact mh_2, eF ▸ oh_2, kk2⟩ (by decide) (by decide) d_M_putText_110
      · -- 15: False
        have c_15 : ¬ (((ndTx (R.2 i)).length) ≤ k1) := fun z => c_15 ((nI_leI (a := (ndTx (R.2 i)).length) (b := k1) (by omega) (by omega)).mpr z)
        have tl1 : (tlO ((ndTx (R.2 i)).take k1)).length + (tbO ((ndTx (R.2 i)).getD k1 0)).length ≤ (tlO (ndTx (R.2 i))).length := by have z := tlO_take (ndTx (R.2 i)) (k1 + 1); rw [take_succ' (ndTx (R.2 i)) (by omega), tlO_app, tlO_one, List.length_append] at z; exact z
        have hc1 := hby k1 (by omega)
        refine lv_aload_n hx hb d_M_putText_18 rfl (lv_at hl 0 rfl) ?_
        refine z_get hx hb hts (z_lay i_M) hown hK hw L8_mo rfl 20 (by decide) (z_in k_791 rfl) (fun _ h9 => h9) rfl d_M_putText_19 ?_
        refine lv_aload_n hx hb d_M_putText_22 rfl (lv_at hl 0 rfl) ?_
        refine z_get hx hb hts (z_lay i_M) hown hK hw L8_mo rfl 15 (by decide) (z_in k_786 rfl) (fun _ h9 => h9) rfl d_M_putText_23 ?_
        refine lv_iload_n hx hb d_M_putText_26 rfl (lv_at hl 1 rfl) ?_
        refine z_iald hx hb hK hw L8_ma_8 1 rfl (vp_in_nI (by omega) (by omega)) d_M_putText_27 ?_
        refine z_topi (y := nr i) (by rw [nI_clamp (by omega)]) ?_
        refine z_top (y := .int (nI (tbC R.2 i))) (by rw [hti.1]) ?_
        refine lv_iload_n hx hb d_M_putText_28 rfl (lv_at hl 2 rfl) ?_
        refine lv_iadd hx hb d_M_putText_29 ?_
        refine z_topi (y := nI ((tbC R.2 i) + k1)) (nI_add (tbC R.2 i) k1) ?_
        refine z_iald hx hb hK hw L8_ma_11 1 rfl (vp_in_nI (by omega) (by omega)) d_M_putText_30 ?_
        refine z_topi (y := tx ((tbC R.2 i) + k1)) (by rw [nI_clamp (by omega)]) ?_
        refine z_top (y := .int (nI ((ndTx (R.2 i)).getD k1 0))) (by rw [hti.2.2.2 k1 (by omega)]) ?_
        refine lv_istore_n (lv' := [(3, .int (nI ((ndTx (R.2 i)).getD k1 0))), (0, .ref mo), (1, .int (nI i)), (2, .int (nI k1))]) hx hb d_M_putText_31 rfl hl (by decide) rfl (fun ls hl => ?_)
        refine lv_iload_n hx hb d_M_putText_32 rfl (lv_at hl 0 rfl) ?_
        refine lv_bipush (v := 32) hx hb d_M_putText_33 (by decide) ?_
        refine lv_icmp_lt (tgt := 44) hx hb d_M_putText_35 (by decide) (fun c_35 => ?_) (fun c_35 => ?_)
        · -- 35: True
          have c_35 : ((ndTx (R.2 i)).getD k1 0) < 32 := (nI_ltI (a := (ndTx (R.2 i)).getD k1 0) (b := 32) (by omega) (by omega)).mp c_35
          have tl2 : (tbO ((ndTx (R.2 i)).getD k1 0)).length = 4 := by unfold tbO; rw [if_pos (Or.inl (show (ndTx (R.2 i)).getD k1 0 < 32 by omega))]; rfl
          refine lv_aload_n hx hb d_M_putText_44 rfl (lv_at hl 1 rfl) ?_
          refine lv_bipush (v := 92) hx hb d_M_putText_45 (by decide) ?_
          have ln_3 : (O1 ++ ([92])).length = O1.length + ([92]).length := List.length_append
          simp only [List.length_cons, List.length_nil] at ln_3
          refine z_callV (n := 1) (As := [.int 92]) (rest := []) ⟨hx, hb, hml, hown, hts⟩ (m_put (O := O1) (b9 := 92) l g hL L8_mo oh1 (by omega) (by omega)) (z_in k_1069 rfl) (z_in k_7 rfl) (z_in k_1066 rfl) (z_in k_1068 rfl) (z_in ks_53 rfl) (by decide +kernel) ⟨by first | exact Nat.le_of_ble_eq_true rfl | (dsimp only; omega) | omega, by first | exact Nat.le_of_ble_eq_true rfl | (dsimp only; omega) | omega⟩ hK hE hw hA rfl L8_mo rfl hl.1 (Nat.le_of_ble_eq_true rfl) d_M_putText_47 ⟨by first | exact Nat.le_of_ble_eq_true rfl | (dsimp only; omega) | omega, by first | exact Nat.le_of_ble_eq_true rfl | (dsimp only; omega) | omega⟩ rfl (fun r9 h9 H locs hp hw => ?_)
          obtain ⟨r8, m8, o8, k8⟩ := hp
          subst r8
          obtain ⟨h3, e7⟩ : ∃ x9, x9 = h9 := ⟨_, rfl⟩
          subst e7
          generalize eO_3 : O1 ++ ([92]) = O_3 at m8 o8 ln_3
          have oh_3 := o8
          have mh_3 := m8
          have g3_ma_8 : h3 (ma 8) = some ((29, 2), .inl (g.2.1 1, 2000, .inl nr)) := k8 _ _ _ L8_ma_8 (by simp; try omega)
          have g3_ma_9 : h3 (ma 9) = some ((29, 3), .inl (g.2.1 1, 2000, .inl ns)) := k8 _ _ _ L8_ma_9 (by simp; try omega)
          have g3_ma_11 : h3 (ma 11) = some ((31, 0), .inl (g.2.1 1, 16000, .inl tx)) := k8 _ _ _ L8_ma_11 (by simp; try omega)
          have kk3 : z_K (fun y => y = 20 ∨ y = 35) h h3 := kkL.tr k8
          refine W.eq (g2 := F0 m 50 ls []) rfl ?_
          refine lv_aload_n hx hb d_M_putText_50 rfl (lv_at hl 1 rfl) ?_
          refine lv_bipush (v := 120) hx hb d_M_putText_51 (by decide) ?_
          have ln_4 : (O_3 ++ ([120])).length = O_3.length + ([120]).length := List.length_append
          simp only [List.length_cons, List.length_nil] at ln_4
          refine z_callV (n := 1) (As := [.int 120]) (rest := []) ⟨hx, hb, hml, hown, hts⟩ (m_put (O := O_3) (b9 := 120) l g h3 mh_3 oh_3 (by omega) (by omega)) (z_in k_1069 rfl) (z_in k_7 rfl) (z_in k_1066 rfl) (z_in k_1068 rfl) (z_in ks_53 rfl) (by decide +kernel) ⟨by first | exact Nat.le_of_ble_eq_true rfl | (dsimp only; omega) | omega, by first | exact Nat.le_of_ble_eq_true rfl | (dsimp only; omega) | omega⟩ hK hE hw hA rfl mh_3 rfl hl.1 (Nat.le_of_ble_eq_true rfl) d_M_putText_53 ⟨by first | exact Nat.le_of_ble_eq_true rfl | (dsimp only; omega) | omega, by first | exact Nat.le_of_ble_eq_true rfl | (dsimp only; omega) | omega⟩ rfl (fun r9 h9 H locs hp hw => ?_)
          obtain ⟨r8, m8, o8, k8⟩ := hp
          subst r8
          obtain ⟨h4, e7⟩ : ∃ x9, x9 = h9 := ⟨_, rfl⟩
          subst e7
          generalize eO_4 : O_3 ++ ([120]) = O_4 at m8 o8 ln_4
          have oh_4 := o8
          have mh_4 := m8
          have g4_ma_8 : h4 (ma 8) = some ((29, 2), .inl (g.2.1 1, 2000, .inl nr)) := k8 _ _ _ g3_ma_8 (by simp; try omega)
          have g4_ma_9 : h4 (ma 9) = some ((29, 3), .inl (g.2.1 1, 2000, .inl ns)) := k8 _ _ _ g3_ma_9 (by simp; try omega)
          have g4_ma_11 : h4 (ma 11) = some ((31, 0), .inl (g.2.1 1, 16000, .inl tx)) := k8 _ _ _ g3_ma_11 (by simp; try omega)
          have kk4 : z_K (fun y => y = 20 ∨ y = 35) h h4 := kk3.tr k8
          refine W.eq (g2 := F0 m 56 ls []) rfl ?_
          refine lv_aload_n hx hb d_M_putText_56 rfl (lv_at hl 1 rfl) ?_
          refine lv_iload_n hx hb d_M_putText_57 rfl (lv_at hl 0 rfl) ?_
          refine lv_bipush (v := 16) hx hb d_M_putText_58 (by decide) ?_
          refine lv_idiv hx hb d_M_putText_60 (by decide) ?_
          refine z_topi (y := nI (((ndTx (R.2 i)).getD k1 0) / 16)) (pk_div (a := (ndTx (R.2 i)).getD k1 0) (d := 16) (by omega) (by omega) (by omega)) ?_
          have ln_5 : (O_4 ++ ([hxO (((ndTx (R.2 i)).getD k1 0) / 16)])).length = O_4.length + ([hxO (((ndTx (R.2 i)).getD k1 0) / 16)]).length := List.length_append
          simp only [List.length_cons, List.length_nil] at ln_5
          refine z_callV (n := 1) (As := [.int (nI (((ndTx (R.2 i)).getD k1 0) / 16))]) (rest := []) ⟨hx, hb, hml, hown, hts⟩ (m_putHex (O := O_4) (d9 := ((ndTx (R.2 i)).getD k1 0) / 16) l g h4 mh_4 oh_4 (by show _ + 1 ≤ _; omega) (by omega)) (z_in k_1081 rfl) (z_in k_7 rfl) (z_in k_1078 rfl) (z_in k_1080 rfl) (z_in ks_56 rfl) (by decide +kernel) ⟨by first | exact Nat.le_of_ble_eq_true rfl | (dsimp only; omega) | omega, by first | exact Nat.le_of_ble_eq_true rfl | (dsimp only; omega) | omega⟩ hK hE hw hA rfl mh_4 rfl hl.1 (Nat.le_of_ble_eq_true rfl) d_M_putText_61 ⟨by first | exact Nat.le_of_ble_eq_true rfl | (dsimp only; omega) | omega, by first | exact Nat.le_of_ble_eq_true rfl | (dsimp only; omega) | omega⟩ rfl (fun r9 h9 H locs hp hw => ?_)
          obtain ⟨r8, m8, o8, k8⟩ := hp
          subst r8
          obtain ⟨h5, e7⟩ : ∃ x9, x9 = h9 := ⟨_, rfl⟩
          subst e7
          generalize eO_5 : O_4 ++ ([hxO (((ndTx (R.2 i)).getD k1 0) / 16)]) = O_5 at m8 o8 ln_5
          have oh_5 := o8
          have mh_5 := m8
          have g5_ma_8 : h5 (ma 8) = some ((29, 2), .inl (g.2.1 1, 2000, .inl nr)) := k8 _ _ _ g4_ma_8 (by simp; try omega)
          have g5_ma_9 : h5 (ma 9) = some ((29, 3), .inl (g.2.1 1, 2000, .inl ns)) := k8 _ _ _ g4_ma_9 (by simp; try omega)
          have g5_ma_11 : h5 (ma 11) = some ((31, 0), .inl (g.2.1 1, 16000, .inl tx)) := k8 _ _ _ g4_ma_11 (by simp; try omega)
          have kk5 : z_K (fun y => y = 20 ∨ y = 35) h h5 := kk4.tr k8
          refine W.eq (g2 := F0 m 64 ls []) rfl ?_
          refine lv_aload_n hx hb d_M_putText_64 rfl (lv_at hl 1 rfl) ?_
          refine lv_iload_n hx hb d_M_putText_65 rfl (lv_at hl 0 rfl) ?_
          refine lv_bipush (v := 16) hx hb d_M_putText_66 (by decide) ?_
          refine lv_irem hx hb d_M_putText_68 (by decide) ?_
          refine z_topi (y := nI (((ndTx (R.2 i)).getD k1 0) % 16)) (pk_rem (a := (ndTx (R.2 i)).getD k1 0) (d := 16) (by omega) (by omega) (by omega)) ?_
          have ln_6 : (O_5 ++ ([hxO (((ndTx (R.2 i)).getD k1 0) % 16)])).length = O_5.length + ([hxO (((ndTx (R.2 i)).getD k1 0) % 16)]).length := List.length_append
          simp only [List.length_cons, List.length_nil] at ln_6
          refine z_callV (n := 1) (As := [.int (nI (((ndTx (R.2 i)).getD k1 0) % 16))]) (rest := []) ⟨hx, hb, hml, hown, hts⟩ (m_putHex (O := O_5) (d9 := ((ndTx (R.2 i)).getD k1 0) % 16) l g h5 mh_5 oh_5 (by show _ + 1 ≤ _; omega) (by omega)) (z_in k_1081 rfl) (z_in k_7 rfl) (z_in k_1078 rfl) (z_in k_1080 rfl) (z_in ks_56 rfl) (by decide +kernel) ⟨by first | exact Nat.le_of_ble_eq_true rfl | (dsimp only; omega) | omega, by first | exact Nat.le_of_ble_eq_true rfl | (dsimp only; omega) | omega⟩ hK hE hw hA rfl mh_5 rfl hl.1 (Nat.le_of_ble_eq_true rfl) d_M_putText_69 ⟨by first | exact Nat.le_of_ble_eq_true rfl | (dsimp only; omega) | omega, by first | exact Nat.le_of_ble_eq_true rfl | (dsimp only; omega) | omega⟩ rfl (fun r9 h9 H locs hp hw => ?_)
          obtain ⟨r8, m8, o8, k8⟩ := hp
          subst r8
          obtain ⟨h6, e7⟩ : ∃ x9, x9 = h9 := ⟨_, rfl⟩
          subst e7
          generalize eO_6 : O_5 ++ ([hxO (((ndTx (R.2 i)).getD k1 0) % 16)]) = O_6 at m8 o8 ln_6
          have oh_6 := o8
          have mh_6 := m8
          have g6_ma_8 : h6 (ma 8) = some ((29, 2), .inl (g.2.1 1, 2000, .inl nr)) := k8 _ _ _ g5_ma_8 (by simp; try omega)
          have g6_ma_9 : h6 (ma 9) = some ((29, 3), .inl (g.2.1 1, 2000, .inl ns)) := k8 _ _ _ g5_ma_9 (by simp; try omega)
          have g6_ma_11 : h6 (ma 11) = some ((31, 0), .inl (g.2.1 1, 16000, .inl tx)) := k8 _ _ _ g5_ma_11 (by simp; try omega)
          have kk6 : z_K (fun y => y = 20 ∨ y = 35) h h6 := kk5.tr k8
          refine W.eq (g2 := F0 m 72 ls []) rfl ?_
          refine lv_goto (tgt := 98) hx hb d_M_putText_72 (by decide) ?_
          refine lv_iinc (v := nI (k1 + 1)) (lv' := [(2, .int (nI (k1 + 1))), (3, .int (nI ((ndTx (R.2 i)).getD k1 0))), (0, .ref mo), (1, .int (nI i))]) hx hb d_M_putText_98 hl (k := 3) rfl (nI_1 k1) (by decide) rfl (fun ls hl => ?_)
          refine lv_goto (tgt := 8) hx hb d_M_putText_101 (by decide) ?_
          refine ih_8 (k1 + 1) O_6 h6 _ _ _ mh_6 g6_ma_8 g6_ma_9 g6_ma_11 kk6 oh_6 (⟨by omega, by rw [← eO_6, ← eO_5, ← eO_4, ← eO_3, le1.2, take_succ' (ndTx (R.2 i)) (by omega), tlO_app, tlO_one]; unfold tbO; rw [if_pos (Or.inl (show (ndTx (R.2 i)).getD k1 0 < 32 by omega))]; simp⟩) ?_ hw (lv_sub hl [2, 3, 0] rfl)
          omega
        · -- 35: False
          have c_35 : ¬ (((ndTx (R.2 i)).getD k1 0) < 32) := fun z => c_35 ((nI_ltI (a := (ndTx (R.2 i)).getD k1 0) (b := 32) (by omega) (by omega)).mpr z)
          refine lv_iload_n hx hb d_M_putText_38 rfl (lv_at hl 0 rfl) ?_
          refine lv_bipush (v := 126) hx hb d_M_putText_39 (by decide) ?_
          refine lv_icmp_le (tgt := 75) hx hb d_M_putText_41 (by decide) (fun c_41 => ?_) (fun c_41 => ?_)
          · -- 41: True
            have c_41 : ((ndTx (R.2 i)).getD k1 0) ≤ 126 := (nI_leI (a := (ndTx (R.2 i)).getD k1 0) (b := 126) (by omega) (by omega)).mp c_41
            have tl3 : (tbO ((ndTx (R.2 i)).getD k1 0)).length = if (ndTx (R.2 i)).getD k1 0 = 39 ∨ (ndTx (R.2 i)).getD k1 0 = 92 then 2 else 1 := by unfold tbO; rw [if_neg (fun z => by omega)]; split <;> rfl
            refine lv_iload_n hx hb d_M_putText_75 rfl (lv_at hl 0 rfl) ?_
            refine lv_bipush (v := 39) hx hb d_M_putText_76 (by decide) ?_
            refine lv_icmp_eq (tgt := 87) hx hb d_M_putText_78 (by decide) (fun c_78 => ?_) (fun c_78 => ?_)
            · -- 78: True
              have c_78 : ((ndTx (R.2 i)).getD k1 0) = 39 := (nI_eq (a := (ndTx (R.2 i)).getD k1 0) (b := 39) (by omega) (by omega)).mp c_78
              rw [if_pos (Or.inl (by omega))] at tl3
              refine lv_aload_n hx hb d_M_putText_87 rfl (lv_at hl 1 rfl) ?_
              refine lv_bipush (v := 92) hx hb d_M_putText_88 (by decide) ?_
              have ln_7 : (O1 ++ ([92])).length = O1.length + ([92]).length := List.length_append
              simp only [List.length_cons, List.length_nil] at ln_7
              refine z_callV (n := 1) (As := [.int 92]) (rest := []) ⟨hx, hb, hml, hown, hts⟩ (m_put (O := O1) (b9 := 92) l g hL L8_mo oh1 (by omega) (by omega)) (z_in k_1069 rfl) (z_in k_7 rfl) (z_in k_1066 rfl) (z_in k_1068 rfl) (z_in ks_53 rfl) (by decide +kernel) ⟨by first | exact Nat.le_of_ble_eq_true rfl | (dsimp only; omega) | omega, by first | exact Nat.le_of_ble_eq_true rfl | (dsimp only; omega) | omega⟩ hK hE hw hA rfl L8_mo rfl hl.1 (Nat.le_of_ble_eq_true rfl) d_M_putText_90 ⟨by first | exact Nat.le_of_ble_eq_true rfl | (dsimp only; omega) | omega, by first | exact Nat.le_of_ble_eq_true rfl | (dsimp only; omega) | omega⟩ rfl (fun r9 h9 H locs hp hw => ?_)
              obtain ⟨r8, m8, o8, k8⟩ := hp
              subst r8
              obtain ⟨h7, e7⟩ : ∃ x9, x9 = h9 := ⟨_, rfl⟩
              subst e7
              generalize eO_7 : O1 ++ ([92]) = O_7 at m8 o8 ln_7
              have oh_7 := o8
              have mh_7 := m8
              have g7_ma_8 : h7 (ma 8) = some ((29, 2), .inl (g.2.1 1, 2000, .inl nr)) := k8 _ _ _ L8_ma_8 (by simp; try omega)
              have g7_ma_9 : h7 (ma 9) = some ((29, 3), .inl (g.2.1 1, 2000, .inl ns)) := k8 _ _ _ L8_ma_9 (by simp; try omega)
              have g7_ma_11 : h7 (ma 11) = some ((31, 0), .inl (g.2.1 1, 16000, .inl tx)) := k8 _ _ _ L8_ma_11 (by simp; try omega)
              have kk7 : z_K (fun y => y = 20 ∨ y = 35) h h7 := kkL.tr k8
              refine W.eq (g2 := F0 m 93 ls []) rfl ?_
              refine lv_aload_n hx hb d_M_putText_93 rfl (lv_at hl 1 rfl) ?_
              refine lv_iload_n hx hb d_M_putText_94 rfl (lv_at hl 0 rfl) ?_
              have ln_8 : (O_7 ++ ([(ndTx (R.2 i)).getD k1 0])).length = O_7.length + ([(ndTx (R.2 i)).getD k1 0]).length := List.length_append
              simp only [List.length_cons, List.length_nil] at ln_8
              refine z_callV (n := 1) (As := [.int (nI ((ndTx (R.2 i)).getD k1 0))]) (rest := []) ⟨hx, hb, hml, hown, hts⟩ (m_put (O := O_7) (b9 := (ndTx (R.2 i)).getD k1 0) l g h7 mh_7 oh_7 (by omega) (by omega)) (z_in k_1069 rfl) (z_in k_7 rfl) (z_in k_1066 rfl) (z_in k_1068 rfl) (z_in ks_53 rfl) (by decide +kernel) ⟨by first | exact Nat.le_of_ble_eq_true rfl | (dsimp only; omega) | omega, by first | exact Nat.le_of_ble_eq_true rfl | (dsimp only; omega) | omega⟩ hK hE hw hA rfl mh_7 rfl hl.1 (Nat.le_of_ble_eq_true rfl) d_M_putText_95 ⟨by first | exact Nat.le_of_ble_eq_true rfl | (dsimp only; omega) | omega, by first | exact Nat.le_of_ble_eq_true rfl | (dsimp only; omega) | omega⟩ rfl (fun r9 h9 H locs hp hw => ?_)
              obtain ⟨r8, m8, o8, k8⟩ := hp
              subst r8
              obtain ⟨h8, e7⟩ : ∃ x9, x9 = h9 := ⟨_, rfl⟩
              subst e7
              generalize eO_8 : O_7 ++ ([(ndTx (R.2 i)).getD k1 0]) = O_8 at m8 o8 ln_8
              have oh_8 := o8
              have mh_8 := m8
              have g8_ma_8 : h8 (ma 8) = some ((29, 2), .inl (g.2.1 1, 2000, .inl nr)) := k8 _ _ _ g7_ma_8 (by simp; try omega)
              have g8_ma_9 : h8 (ma 9) = some ((29, 3), .inl (g.2.1 1, 2000, .inl ns)) := k8 _ _ _ g7_ma_9 (by simp; try omega)
              have g8_ma_11 : h8 (ma 11) = some ((31, 0), .inl (g.2.1 1, 16000, .inl tx)) := k8 _ _ _ g7_ma_11 (by simp; try omega)
              have kk8 : z_K (fun y => y = 20 ∨ y = 35) h h8 := kk7.tr k8
              refine W.eq (g2 := F0 m 98 ls []) rfl ?_
              refine lv_iinc (v := nI (k1 + 1)) (lv' := [(2, .int (nI (k1 + 1))), (3, .int (nI ((ndTx (R.2 i)).getD k1 0))), (0, .ref mo), (1, .int (nI i))]) hx hb d_M_putText_98 hl (k := 3) rfl (nI_1 k1) (by decide) rfl (fun ls hl => ?_)
              refine lv_goto (tgt := 8) hx hb d_M_putText_101 (by decide) ?_
              refine ih_8 (k1 + 1) O_8 h8 _ _ _ mh_8 g8_ma_8 g8_ma_9 g8_ma_11 kk8 oh_8 (⟨by omega, by rw [← eO_8, ← eO_7, le1.2, take_succ' (ndTx (R.2 i)) (by omega), tlO_app, tlO_one]; unfold tbO; rw [if_neg (fun z => by omega), if_pos (Or.inl (show (ndTx (R.2 i)).getD k1 0 = 39 by omega))]; simp⟩) ?_ hw (lv_sub hl [2, 3, 0] rfl)
              omega
            · -- 78: False
              have c_78 : ¬ (((ndTx (R.2 i)).getD k1 0) = 39) := fun z => c_78 ((nI_eq (a := (ndTx (R.2 i)).getD k1 0) (b := 39) (by omega) (by omega)).mpr z)
              refine lv_iload_n hx hb d_M_putText_81 rfl (lv_at hl 0 rfl) ?_
              refine lv_bipush (v := 92) hx hb d_M_putText_82 (by decide) ?_
              refine lv_icmp_ne (tgt := 93) hx hb d_M_putText_84 (by decide) (fun c_84 => ?_) (fun c_84 => ?_)
              · -- 84: True
                have c_84 : ¬ (((ndTx (R.2 i)).getD k1 0) = 92) := fun z => c_84 ((nI_eq (a := (ndTx (R.2 i)).getD k1 0) (b := 92) (by omega) (by omega)).mpr z)
                rw [if_neg (fun z => by omega)] at tl3
                refine lv_aload_n hx hb d_M_putText_93 rfl (lv_at hl 1 rfl) ?_
                refine lv_iload_n hx hb d_M_putText_94 rfl (lv_at hl 0 rfl) ?_
                have ln_9 : (O1 ++ ([(ndTx (R.2 i)).getD k1 0])).length = O1.length + ([(ndTx (R.2 i)).getD k1 0]).length := List.length_append
                simp only [List.length_cons, List.length_nil] at ln_9
                refine z_callV (n := 1) (As := [.int (nI ((ndTx (R.2 i)).getD k1 0))]) (rest := []) ⟨hx, hb, hml, hown, hts⟩ (m_put (O := O1) (b9 := (ndTx (R.2 i)).getD k1 0) l g hL L8_mo oh1 (by omega) (by omega)) (z_in k_1069 rfl) (z_in k_7 rfl) (z_in k_1066 rfl) (z_in k_1068 rfl) (z_in ks_53 rfl) (by decide +kernel) ⟨by first | exact Nat.le_of_ble_eq_true rfl | (dsimp only; omega) | omega, by first | exact Nat.le_of_ble_eq_true rfl | (dsimp only; omega) | omega⟩ hK hE hw hA rfl L8_mo rfl hl.1 (Nat.le_of_ble_eq_true rfl) d_M_putText_95 ⟨by first | exact Nat.le_of_ble_eq_true rfl | (dsimp only; omega) | omega, by first | exact Nat.le_of_ble_eq_true rfl | (dsimp only; omega) | omega⟩ rfl (fun r9 h9 H locs hp hw => ?_)
                obtain ⟨r8, m8, o8, k8⟩ := hp
                subst r8
                obtain ⟨h9, e7⟩ : ∃ x9, x9 = h9 := ⟨_, rfl⟩
                subst e7
                generalize eO_9 : O1 ++ ([(ndTx (R.2 i)).getD k1 0]) = O_9 at m8 o8 ln_9
                have oh_9 := o8
                have mh_9 := m8
                have g9_ma_8 : h9 (ma 8) = some ((29, 2), .inl (g.2.1 1, 2000, .inl nr)) := k8 _ _ _ L8_ma_8 (by simp; try omega)
                have g9_ma_9 : h9 (ma 9) = some ((29, 3), .inl (g.2.1 1, 2000, .inl ns)) := k8 _ _ _ L8_ma_9 (by simp; try omega)
                have g9_ma_11 : h9 (ma 11) = some ((31, 0), .inl (g.2.1 1, 16000, .inl tx)) := k8 _ _ _ L8_ma_11 (by simp; try omega)
                have kk9 : z_K (fun y => y = 20 ∨ y = 35) h h9 := kkL.tr k8
                refine W.eq (g2 := F0 m 98 ls []) rfl ?_
                refine lv_iinc (v := nI (k1 + 1)) (lv' := [(2, .int (nI (k1 + 1))), (3, .int (nI ((ndTx (R.2 i)).getD k1 0))), (0, .ref mo), (1, .int (nI i))]) hx hb d_M_putText_98 hl (k := 3) rfl (nI_1 k1) (by decide) rfl (fun ls hl => ?_)
                refine lv_goto (tgt := 8) hx hb d_M_putText_101 (by decide) ?_
                refine ih_8 (k1 + 1) O_9 h9 _ _ _ mh_9 g9_ma_8 g9_ma_9 g9_ma_11 kk9 oh_9 (⟨by omega, by rw [← eO_9, le1.2, take_succ' (ndTx (R.2 i)) (by omega), tlO_app, tlO_one]; unfold tbO; rw [if_neg (fun z => by omega), if_neg (fun z => by omega)]; simp⟩) ?_ hw (lv_sub hl [2, 3, 0] rfl)
                omega
              · -- 84: False
                have c_84 : ((ndTx (R.2 i)).getD k1 0) = 92 := (nI_eq (a := (ndTx (R.2 i)).getD k1 0) (b := 92) (by omega) (by omega)).mp c_84
                rw [if_pos (Or.inr (by omega))] at tl3
                refine lv_aload_n hx hb d_M_putText_87 rfl (lv_at hl 1 rfl) ?_
                refine lv_bipush (v := 92) hx hb d_M_putText_88 (by decide) ?_
                have ln_10 : (O1 ++ ([92])).length = O1.length + ([92]).length := List.length_append
                simp only [List.length_cons, List.length_nil] at ln_10
                refine z_callV (n := 1) (As := [.int 92]) (rest := []) ⟨hx, hb, hml, hown, hts⟩ (m_put (O := O1) (b9 := 92) l g hL L8_mo oh1 (by omega) (by omega)) (z_in k_1069 rfl) (z_in k_7 rfl) (z_in k_1066 rfl) (z_in k_1068 rfl) (z_in ks_53 rfl) (by decide +kernel) ⟨by first | exact Nat.le_of_ble_eq_true rfl | (dsimp only; omega) | omega, by first | exact Nat.le_of_ble_eq_true rfl | (dsimp only; omega) | omega⟩ hK hE hw hA rfl L8_mo rfl hl.1 (Nat.le_of_ble_eq_true rfl) d_M_putText_90 ⟨by first | exact Nat.le_of_ble_eq_true rfl | (dsimp only; omega) | omega, by first | exact Nat.le_of_ble_eq_true rfl | (dsimp only; omega) | omega⟩ rfl (fun r9 h9 H locs hp hw => ?_)
                obtain ⟨r8, m8, o8, k8⟩ := hp
                subst r8
                obtain ⟨h10, e7⟩ : ∃ x9, x9 = h9 := ⟨_, rfl⟩
                subst e7
                generalize eO_10 : O1 ++ ([92]) = O_10 at m8 o8 ln_10
                have oh_10 := o8
                have mh_10 := m8
                have g10_ma_8 : h10 (ma 8) = some ((29, 2), .inl (g.2.1 1, 2000, .inl nr)) := k8 _ _ _ L8_ma_8 (by simp; try omega)
                have g10_ma_9 : h10 (ma 9) = some ((29, 3), .inl (g.2.1 1, 2000, .inl ns)) := k8 _ _ _ L8_ma_9 (by simp; try omega)
                have g10_ma_11 : h10 (ma 11) = some ((31, 0), .inl (g.2.1 1, 16000, .inl tx)) := k8 _ _ _ L8_ma_11 (by simp; try omega)
                have kk10 : z_K (fun y => y = 20 ∨ y = 35) h h10 := kkL.tr k8
                refine W.eq (g2 := F0 m 93 ls []) rfl ?_
                refine lv_aload_n hx hb d_M_putText_93 rfl (lv_at hl 1 rfl) ?_
                refine lv_iload_n hx hb d_M_putText_94 rfl (lv_at hl 0 rfl) ?_
                have ln_11 : (O_10 ++ ([(ndTx (R.2 i)).getD k1 0])).length = O_10.length + ([(ndTx (R.2 i)).getD k1 0]).length := List.length_append
                simp only [List.length_cons, List.length_nil] at ln_11
                refine z_callV (n := 1) (As := [.int (nI ((ndTx (R.2 i)).getD k1 0))]) (rest := []) ⟨hx, hb, hml, hown, hts⟩ (m_put (O := O_10) (b9 := (ndTx (R.2 i)).getD k1 0) l g h10 mh_10 oh_10 (by omega) (by omega)) (z_in k_1069 rfl) (z_in k_7 rfl) (z_in k_1066 rfl) (z_in k_1068 rfl) (z_in ks_53 rfl) (by decide +kernel) ⟨by first | exact Nat.le_of_ble_eq_true rfl | (dsimp only; omega) | omega, by first | exact Nat.le_of_ble_eq_true rfl | (dsimp only; omega) | omega⟩ hK hE hw hA rfl mh_10 rfl hl.1 (Nat.le_of_ble_eq_true rfl) d_M_putText_95 ⟨by first | exact Nat.le_of_ble_eq_true rfl | (dsimp only; omega) | omega, by first | exact Nat.le_of_ble_eq_true rfl | (dsimp only; omega) | omega⟩ rfl (fun r9 h9 H locs hp hw => ?_)
                obtain ⟨r8, m8, o8, k8⟩ := hp
                subst r8
                obtain ⟨h11, e7⟩ : ∃ x9, x9 = h9 := ⟨_, rfl⟩
                subst e7
                generalize eO_11 : O_10 ++ ([(ndTx (R.2 i)).getD k1 0]) = O_11 at m8 o8 ln_11
                have oh_11 := o8
                have mh_11 := m8
                have g11_ma_8 : h11 (ma 8) = some ((29, 2), .inl (g.2.1 1, 2000, .inl nr)) := k8 _ _ _ g10_ma_8 (by simp; try omega)
                have g11_ma_9 : h11 (ma 9) = some ((29, 3), .inl (g.2.1 1, 2000, .inl ns)) := k8 _ _ _ g10_ma_9 (by simp; try omega)
                have g11_ma_11 : h11 (ma 11) = some ((31, 0), .inl (g.2.1 1, 16000, .inl tx)) := k8 _ _ _ g10_ma_11 (by simp; try omega)
                have kk11 : z_K (fun y => y = 20 ∨ y = 35) h h11 := kk10.tr k8
                refine W.eq (g2 := F0 m 98 ls []) rfl ?_
                refine lv_iinc (v := nI (k1 + 1)) (lv' := [(2, .int (nI (k1 + 1))), (3, .int (nI ((ndTx (R.2 i)).getD k1 0))), (0, .ref mo), (1, .int (nI i))]) hx hb d_M_putText_98 hl (k := 3) rfl (nI_1 k1) (by decide) rfl (fun ls hl => ?_)
                refine lv_goto (tgt := 8) hx hb d_M_putText_101 (by decide) ?_
                refine ih_8 (k1 + 1) O_11 h11 _ _ _ mh_11 g11_ma_8 g11_ma_9 g11_ma_11 kk11 oh_11 (⟨by omega, by rw [← eO_11, ← eO_10, le1.2, take_succ' (ndTx (R.2 i)) (by omega), tlO_app, tlO_one]; unfold tbO; rw [if_neg (fun z => by omega), if_pos (Or.inr (show (ndTx (R.2 i)).getD k1 0 = 92 by omega))]; simp⟩) ?_ hw (lv_sub hl [2, 3, 0] rfl)
                omega
          · -- 41: False
            have c_41 : ¬ (((ndTx (R.2 i)).getD k1 0) ≤ 126) := fun z => c_41 ((nI_leI (a := (ndTx (R.2 i)).getD k1 0) (b := 126) (by omega) (by omega)).mpr z)
            have tl2 : (tbO ((ndTx (R.2 i)).getD k1 0)).length = 4 := by unfold tbO; rw [if_pos (Or.inr (show 126 < (ndTx (R.2 i)).getD k1 0 by omega))]; rfl
            refine lv_aload_n hx hb d_M_putText_44 rfl (lv_at hl 1 rfl) ?_
            refine lv_bipush (v := 92) hx hb d_M_putText_45 (by decide) ?_
            have ln_12 : (O1 ++ ([92])).length = O1.length + ([92]).length := List.length_append
            simp only [List.length_cons, List.length_nil] at ln_12
            refine z_callV (n := 1) (As := [.int 92]) (rest := []) ⟨hx, hb, hml, hown, hts⟩ (m_put (O := O1) (b9 := 92) l g hL L8_mo oh1 (by omega) (by omega)) (z_in k_1069 rfl) (z_in k_7 rfl) (z_in k_1066 rfl) (z_in k_1068 rfl) (z_in ks_53 rfl) (by decide +kernel) ⟨by first | exact Nat.le_of_ble_eq_true rfl | (dsimp only; omega) | omega, by first | exact Nat.le_of_ble_eq_true rfl | (dsimp only; omega) | omega⟩ hK hE hw hA rfl L8_mo rfl hl.1 (Nat.le_of_ble_eq_true rfl) d_M_putText_47 ⟨by first | exact Nat.le_of_ble_eq_true rfl | (dsimp only; omega) | omega, by first | exact Nat.le_of_ble_eq_true rfl | (dsimp only; omega) | omega⟩ rfl (fun r9 h9 H locs hp hw => ?_)
            obtain ⟨r8, m8, o8, k8⟩ := hp
            subst r8
            obtain ⟨h12, e7⟩ : ∃ x9, x9 = h9 := ⟨_, rfl⟩
            subst e7
            generalize eO_12 : O1 ++ ([92]) = O_12 at m8 o8 ln_12
            have oh_12 := o8
            have mh_12 := m8
            have g12_ma_8 : h12 (ma 8) = some ((29, 2), .inl (g.2.1 1, 2000, .inl nr)) := k8 _ _ _ L8_ma_8 (by simp; try omega)
            have g12_ma_9 : h12 (ma 9) = some ((29, 3), .inl (g.2.1 1, 2000, .inl ns)) := k8 _ _ _ L8_ma_9 (by simp; try omega)
            have g12_ma_11 : h12 (ma 11) = some ((31, 0), .inl (g.2.1 1, 16000, .inl tx)) := k8 _ _ _ L8_ma_11 (by simp; try omega)
            have kk12 : z_K (fun y => y = 20 ∨ y = 35) h h12 := kkL.tr k8
            refine W.eq (g2 := F0 m 50 ls []) rfl ?_
            refine lv_aload_n hx hb d_M_putText_50 rfl (lv_at hl 1 rfl) ?_
            refine lv_bipush (v := 120) hx hb d_M_putText_51 (by decide) ?_
            have ln_13 : (O_12 ++ ([120])).length = O_12.length + ([120]).length := List.length_append
            simp only [List.length_cons, List.length_nil] at ln_13
            refine z_callV (n := 1) (As := [.int 120]) (rest := []) ⟨hx, hb, hml, hown, hts⟩ (m_put (O := O_12) (b9 := 120) l g h12 mh_12 oh_12 (by omega) (by omega)) (z_in k_1069 rfl) (z_in k_7 rfl) (z_in k_1066 rfl) (z_in k_1068 rfl) (z_in ks_53 rfl) (by decide +kernel) ⟨by first | exact Nat.le_of_ble_eq_true rfl | (dsimp only; omega) | omega, by first | exact Nat.le_of_ble_eq_true rfl | (dsimp only; omega) | omega⟩ hK hE hw hA rfl mh_12 rfl hl.1 (Nat.le_of_ble_eq_true rfl) d_M_putText_53 ⟨by first | exact Nat.le_of_ble_eq_true rfl | (dsimp only; omega) | omega, by first | exact Nat.le_of_ble_eq_true rfl | (dsimp only; omega) | omega⟩ rfl (fun r9 h9 H locs hp hw => ?_)
            obtain ⟨r8, m8, o8, k8⟩ := hp
            subst r8
            obtain ⟨h13, e7⟩ : ∃ x9, x9 = h9 := ⟨_, rfl⟩
            subst e7
            generalize eO_13 : O_12 ++ ([120]) = O_13 at m8 o8 ln_13
            have oh_13 := o8
            have mh_13 := m8
            have g13_ma_8 : h13 (ma 8) = some ((29, 2), .inl (g.2.1 1, 2000, .inl nr)) := k8 _ _ _ g12_ma_8 (by simp; try omega)
            have g13_ma_9 : h13 (ma 9) = some ((29, 3), .inl (g.2.1 1, 2000, .inl ns)) := k8 _ _ _ g12_ma_9 (by simp; try omega)
            have g13_ma_11 : h13 (ma 11) = some ((31, 0), .inl (g.2.1 1, 16000, .inl tx)) := k8 _ _ _ g12_ma_11 (by simp; try omega)
            have kk13 : z_K (fun y => y = 20 ∨ y = 35) h h13 := kk12.tr k8
            refine W.eq (g2 := F0 m 56 ls []) rfl ?_
            refine lv_aload_n hx hb d_M_putText_56 rfl (lv_at hl 1 rfl) ?_
            refine lv_iload_n hx hb d_M_putText_57 rfl (lv_at hl 0 rfl) ?_
            refine lv_bipush (v := 16) hx hb d_M_putText_58 (by decide) ?_
            refine lv_idiv hx hb d_M_putText_60 (by decide) ?_
            refine z_topi (y := nI (((ndTx (R.2 i)).getD k1 0) / 16)) (pk_div (a := (ndTx (R.2 i)).getD k1 0) (d := 16) (by omega) (by omega) (by omega)) ?_
            have ln_14 : (O_13 ++ ([hxO (((ndTx (R.2 i)).getD k1 0) / 16)])).length = O_13.length + ([hxO (((ndTx (R.2 i)).getD k1 0) / 16)]).length := List.length_append
            simp only [List.length_cons, List.length_nil] at ln_14
            refine z_callV (n := 1) (As := [.int (nI (((ndTx (R.2 i)).getD k1 0) / 16))]) (rest := []) ⟨hx, hb, hml, hown, hts⟩ (m_putHex (O := O_13) (d9 := ((ndTx (R.2 i)).getD k1 0) / 16) l g h13 mh_13 oh_13 (by show _ + 1 ≤ _; omega) (by omega)) (z_in k_1081 rfl) (z_in k_7 rfl) (z_in k_1078 rfl) (z_in k_1080 rfl) (z_in ks_56 rfl) (by decide +kernel) ⟨by first | exact Nat.le_of_ble_eq_true rfl | (dsimp only; omega) | omega, by first | exact Nat.le_of_ble_eq_true rfl | (dsimp only; omega) | omega⟩ hK hE hw hA rfl mh_13 rfl hl.1 (Nat.le_of_ble_eq_true rfl) d_M_putText_61 ⟨by first | exact Nat.le_of_ble_eq_true rfl | (dsimp only; omega) | omega, by first | exact Nat.le_of_ble_eq_true rfl | (dsimp only; omega) | omega⟩ rfl (fun r9 h9 H locs hp hw => ?_)
            obtain ⟨r8, m8, o8, k8⟩ := hp
            subst r8
            obtain ⟨h14, e7⟩ : ∃ x9, x9 = h9 := ⟨_, rfl⟩
            subst e7
            generalize eO_14 : O_13 ++ ([hxO (((ndTx (R.2 i)).getD k1 0) / 16)]) = O_14 at m8 o8 ln_14
            have oh_14 := o8
            have mh_14 := m8
            have g14_ma_8 : h14 (ma 8) = some ((29, 2), .inl (g.2.1 1, 2000, .inl nr)) := k8 _ _ _ g13_ma_8 (by simp; try omega)
            have g14_ma_9 : h14 (ma 9) = some ((29, 3), .inl (g.2.1 1, 2000, .inl ns)) := k8 _ _ _ g13_ma_9 (by simp; try omega)
            have g14_ma_11 : h14 (ma 11) = some ((31, 0), .inl (g.2.1 1, 16000, .inl tx)) := k8 _ _ _ g13_ma_11 (by simp; try omega)
            have kk14 : z_K (fun y => y = 20 ∨ y = 35) h h14 := kk13.tr k8
            refine W.eq (g2 := F0 m 64 ls []) rfl ?_
            refine lv_aload_n hx hb d_M_putText_64 rfl (lv_at hl 1 rfl) ?_
            refine lv_iload_n hx hb d_M_putText_65 rfl (lv_at hl 0 rfl) ?_
            refine lv_bipush (v := 16) hx hb d_M_putText_66 (by decide) ?_
            refine lv_irem hx hb d_M_putText_68 (by decide) ?_
            refine z_topi (y := nI (((ndTx (R.2 i)).getD k1 0) % 16)) (pk_rem (a := (ndTx (R.2 i)).getD k1 0) (d := 16) (by omega) (by omega) (by omega)) ?_
            have ln_15 : (O_14 ++ ([hxO (((ndTx (R.2 i)).getD k1 0) % 16)])).length = O_14.length + ([hxO (((ndTx (R.2 i)).getD k1 0) % 16)]).length := List.length_append
            simp only [List.length_cons, List.length_nil] at ln_15
            refine z_callV (n := 1) (As := [.int (nI (((ndTx (R.2 i)).getD k1 0) % 16))]) (rest := []) ⟨hx, hb, hml, hown, hts⟩ (m_putHex (O := O_14) (d9 := ((ndTx (R.2 i)).getD k1 0) % 16) l g h14 mh_14 oh_14 (by show _ + 1 ≤ _; omega) (by omega)) (z_in k_1081 rfl) (z_in k_7 rfl) (z_in k_1078 rfl) (z_in k_1080 rfl) (z_in ks_56 rfl) (by decide +kernel) ⟨by first | exact Nat.le_of_ble_eq_true rfl | (dsimp only; omega) | omega, by first | exact Nat.le_of_ble_eq_true rfl | (dsimp only; omega) | omega⟩ hK hE hw hA rfl mh_14 rfl hl.1 (Nat.le_of_ble_eq_true rfl) d_M_putText_69 ⟨by first | exact Nat.le_of_ble_eq_true rfl | (dsimp only; omega) | omega, by first | exact Nat.le_of_ble_eq_true rfl | (dsimp only; omega) | omega⟩ rfl (fun r9 h9 H locs hp hw => ?_)
            obtain ⟨r8, m8, o8, k8⟩ := hp
            subst r8
            obtain ⟨h15, e7⟩ : ∃ x9, x9 = h9 := ⟨_, rfl⟩
            subst e7
            generalize eO_15 : O_14 ++ ([hxO (((ndTx (R.2 i)).getD k1 0) % 16)]) = O_15 at m8 o8 ln_15
            have oh_15 := o8
            have mh_15 := m8
            have g15_ma_8 : h15 (ma 8) = some ((29, 2), .inl (g.2.1 1, 2000, .inl nr)) := k8 _ _ _ g14_ma_8 (by simp; try omega)
            have g15_ma_9 : h15 (ma 9) = some ((29, 3), .inl (g.2.1 1, 2000, .inl ns)) := k8 _ _ _ g14_ma_9 (by simp; try omega)
            have g15_ma_11 : h15 (ma 11) = some ((31, 0), .inl (g.2.1 1, 16000, .inl tx)) := k8 _ _ _ g14_ma_11 (by simp; try omega)
            have kk15 : z_K (fun y => y = 20 ∨ y = 35) h h15 := kk14.tr k8
            refine W.eq (g2 := F0 m 72 ls []) rfl ?_
            refine lv_goto (tgt := 98) hx hb d_M_putText_72 (by decide) ?_
            refine lv_iinc (v := nI (k1 + 1)) (lv' := [(2, .int (nI (k1 + 1))), (3, .int (nI ((ndTx (R.2 i)).getD k1 0))), (0, .ref mo), (1, .int (nI i))]) hx hb d_M_putText_98 hl (k := 3) rfl (nI_1 k1) (by decide) rfl (fun ls hl => ?_)
            refine lv_goto (tgt := 8) hx hb d_M_putText_101 (by decide) ?_
            refine ih_8 (k1 + 1) O_15 h15 _ _ _ mh_15 g15_ma_8 g15_ma_9 g15_ma_11 kk15 oh_15 (⟨by omega, by rw [← eO_15, ← eO_14, ← eO_13, ← eO_12, le1.2, take_succ' (ndTx (R.2 i)) (by omega), tlO_app, tlO_one]; unfold tbO; rw [if_pos (Or.inr (show 126 < (ndTx (R.2 i)).getD k1 0 by omega))]; simp⟩) ?_ hw (lv_sub hl [2, 3, 0] rfl)
            omega
  exact loop_8 ((ndTx (R.2 i)).length - 0 + 1) 0 O_1 h1 _ _ _ mh_1 g1_ma_8 g1_ma_9 g1_ma_11 kk1 oh_1 (⟨by omega, by rw [← eO_1]; simp [tlO]⟩) (by omega) hw (lv_sub hl [1, 2, 0] rfl)

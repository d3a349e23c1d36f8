def cloO (S : Sch) : Option Nat → List Nat
  | none => []
  | some b => if fKi (S.2 b) = 2 then [93] else []
def opO (S : Sch) (fi : Nat) : List Nat := if fKi (S.2 fi) = 2 then [91] else []
def hdO (S : Sch) (fi : Nat) : List Nat := fNm (S.2 fi) ++ [58] ++ opO S fi
def betO (S : Sch) : Option Nat → Nat → List Nat
  | none, fi => hdO S fi
  | some b, fi => if b = fi then [44] else cloO S (some b) ++ [44] ++ hdO S fi
def leafO (N : Nod) (ty : Int32) : List Nat := if ty = 3 then txO (ndTx N) else if ty = 0 then (if ndNu N = 0 then wdO 9 else wdO 8) else numO (ndNu N)
theorem cloO_len (S : Sch) (b : Option Nat) : (cloO S b).length ≤ 1 := by
  cases b with
  | none => exact Nat.zero_le _
  | some b => show (if fKi (S.2 b) = 2 then [93] else ([] : List Nat)).length ≤ 1; split <;> decide
theorem hdO_len (S : Sch) (fi : Nat) : (hdO S fi).length = (fNm (S.2 fi)).length + 1 + (opO S fi).length := by
  unfold hdO; rw [List.length_append, List.length_append]; rfl
theorem opO_len (S : Sch) (fi : Nat) : (opO S fi).length ≤ 1 := by unfold opO; split <;> simp

set_option maxHeartbeats 4000000 in
set_option maxRecDepth 100000 in
theorem c_putClosing0 (l : Launch) (g : z_G) (h : z_H) {wr q nw ow j : Nat} {O : List Nat} {r : Nat} {S : Sch} {fa9 ca : Nat} {adS na : Nat → Nat} {ff : Nat → Option Nat} {cf : Nat → Int32} {nf : Nat → Nat → Int32} (hwr : h wr = some ((9, 0), .inr (10, [.ref q, .ref nw, .ref ow]))) (hO : OutB g h ow j O) (hj : j ≤ 8) (hlen : O.length + (cloO S none).length ≤ 262144)  : z_C l y_RecordWriter_putClosing prog_7_method_4_code 2 (Option.none : Option Jvm.ClassFile.FieldType) 4 110 (jf j (O ++ (cloO S none)).length - jf j O.length) (slj j (O ++ (cloO S none)).length - slj j O.length) g [.ref wr, .null] h (fun x h1 => x = none ∧ OutB g h1 ow j (O ++ (cloO S none)) ∧ z_K (fun y => y = 4 ∨ y = 5) h h1) := by
  refine z_C.of (by decide) (Nat.le_of_ble_eq_true rfl) (fun pg en s m below meth cd A ls hx hb hml hr hts hown hlocks hnm hK hE hA hw hl => ?_)
  have hl : lv_has ls 2 [(0, .ref wr), (1, .null)] := hl
  have lX : (O ++ (cloO S none)).length = O.length + (cloO S none).length := List.length_append
  have mX := jf_mono j (show O.length ≤ (O ++ (cloO S none)).length by omega)
  have lc : (cloO S none).length = 0 := rfl
  have kk0 : z_K (fun y => y = 4 ∨ y = 5) h h := z_K.rf
  refine lv_aload_nN hx hb d_RecordWriter_putClosing_0 rfl (lv_at hl 1 rfl) ?_
  refine lv_ifnullN (tgt := 21) hx hb d_RecordWriter_putClosing_1 (by decide) ?_
  have eF : O = O ++ (cloO S none) := by simp [cloO]
  have eJ : jf j O.length = jf j (O ++ (cloO S none)).length ∧ slj j O.length = slj j (O ++ (cloO S none)).length := ⟨congrArg (fun x => jf j x.length) eF, congrArg (fun x => slj j x.length) eF⟩
  exact z_vret hx hb hr hlocks hw ⟨rfl, eF ▸ hO, kk0⟩ (by first | exact Nat.le_of_ble_eq_true rfl | (dsimp only; omega) | omega) (by first | exact Nat.le_of_ble_eq_true rfl | (dsimp only; omega) | omega) d_RecordWriter_putClosing_21

set_option maxHeartbeats 4000000 in
set_option maxRecDepth 100000 in
theorem c_putClosing1 (l : Launch) (g : z_G) (h : z_H) {wr q nw ow j : Nat} {O : List Nat} {r : Nat} {S : Sch} {fa9 ca : Nat} {adS na : Nat → Nat} {ff : Nat → Option Nat} {cf : Nat → Int32} {nf : Nat → Nat → Int32} {bi : Nat} (hwr : h wr = some ((9, 0), .inr (10, [.ref q, .ref nw, .ref ow]))) (hO : OutB g h ow j O) (hj : j ≤ 8) (hlen : O.length + (cloO S (some bi)).length ≤ 262144) (hS : SchP g h r q S fa9 ca adS na ff cf nf) (hr0 : 100 ≤ r) (hbi : bi < S.1) : z_C l y_RecordWriter_putClosing prog_7_method_4_code 2 (Option.none : Option Jvm.ClassFile.FieldType) 4 110 (jf j (O ++ (cloO S (some bi))).length - jf j O.length) (slj j (O ++ (cloO S (some bi))).length - slj j O.length) g [.ref wr, .ref (adS bi)] h (fun x h1 => x = none ∧ OutB g h1 ow j (O ++ (cloO S (some bi))) ∧ z_K (fun y => y = 4 ∨ y = 5) h h1) := by
  refine z_C.of (by decide) (Nat.le_of_ble_eq_true rfl) (fun pg en s m below meth cd A ls hx hb hml hr hts hown hlocks hnm hK hE hA hw hl => ?_)
  have hl : lv_has ls 2 [(0, .ref wr), (1, .ref (adS bi))] := hl
  have lX : (O ++ (cloO S (some bi))).length = O.length + (cloO S (some bi)).length := List.length_append
  have mX := jf_mono j (show O.length ≤ (O ++ (cloO S (some bi))).length by omega)
  have hfb9 := (hS.2.2.2.1 bi hbi).2
  have kk0 : z_K (fun y => y = 4 ∨ y = 5) h h := z_K.rf
  refine lv_aload_n hx hb d_RecordWriter_putClosing_0 rfl (lv_at hl 1 rfl) ?_
  refine lv_ifnull hx hb d_RecordWriter_putClosing_1 ?_
  refine lv_aload_n hx hb d_RecordWriter_putClosing_4 rfl (lv_at hl 1 rfl) ?_
  refine z_getN hx hb hts (z_lay i_Field) hown hK hw hfb9 rfl 1 (by decide) hE.nest (z_inN k_405 rfl) (fun _ h9 => h9) rfl d_RecordWriter_putClosing_5 ?_
  refine lv_iconst (v := 2) hx hb d_RecordWriter_putClosing_8 (by decide) ?_
  refine lv_icmp_ne (tgt := 21) hx hb d_RecordWriter_putClosing_9 (by decide) (fun c_9 => ?_) (fun c_9 => ?_)
  · -- 9: True
    have eC : cloO S (some bi) = [] := if_neg c_9
    have lC := congrArg List.length eC
    simp only [List.length_cons, List.length_nil] at lC
    have eF : O = O ++ (cloO S (some bi)) := by rw [eC] <;> simp
    have eJ : jf j O.length = jf j (O ++ (cloO S (some bi))).length ∧ slj j O.length = slj j (O ++ (cloO S (some bi))).length := ⟨congrArg (fun x => jf j x.length) eF, congrArg (fun x => slj j x.length) eF⟩
    exact z_vret hx hb hr hlocks hw ⟨rfl, eF ▸ hO, kk0⟩ (by first | exact Nat.le_of_ble_eq_true rfl | (dsimp only; omega) | omega) (by first | exact Nat.le_of_ble_eq_true rfl | (dsimp only; omega) | omega) d_RecordWriter_putClosing_21
  · -- 9: False
    have eC : cloO S (some bi) = [93] := if_pos c_9
    have lC := congrArg List.length eC
    simp only [List.length_cons, List.length_nil] at lC
    refine lv_aload_n hx hb d_RecordWriter_putClosing_12 rfl (lv_at hl 0 rfl) ?_
    refine z_get hx hb hts (z_lay i_RecordWriter) hown hK hw hwr rfl 2 (by decide) (z_in k_691 rfl) (fun _ h9 => h9) rfl d_RecordWriter_putClosing_13 ?_
    refine lv_bipush (v := 93) hx hb d_RecordWriter_putClosing_16 (by decide) ?_
    obtain ⟨ob_1, f_1, how_1, -⟩ := id hO
    have ln_1 : (O ++ ([93])).length = O.length + ([93]).length := List.length_append
    simp only [List.length_cons, List.length_nil] at ln_1
    have ma_1 := jf_mono j (show O.length ≤ (O ++ ([93])).length by omega)
    have mb_1 := jf_mono j (show (O ++ ([93])).length ≤ (O ++ (cloO S (some bi))).length by omega)
    refine z_callV (n := 1) (As := [.int 93]) (rest := []) ⟨hx, hb, hml, hown, hts⟩ (c_put2 (O := O) (b := 93) l g h hO ⟨by decide, by decide⟩ (by omega) hj) (z_in k_707 rfl) (z_in k_3 rfl) (z_in k_704 rfl) (z_in k_705 rfl) (z_in k_706 rfl) (by decide +kernel) ⟨by first | exact Nat.le_of_ble_eq_true rfl | (dsimp only; omega) | omega, by first | exact Nat.le_of_ble_eq_true rfl | (dsimp only; omega) | omega⟩ hK hE hw hA rfl how_1 rfl hl.1 (Nat.le_of_ble_eq_true rfl) d_RecordWriter_putClosing_18 ⟨by first | exact Nat.le_of_ble_eq_true rfl | (dsimp only; omega) | omega, by first | exact Nat.le_of_ble_eq_true rfl | (dsimp only; omega) | omega⟩ rfl (fun r9 h9 H locs hp hw => ?_)
    obtain ⟨r8, o8, k8⟩ := hp
    subst r8
    obtain ⟨h1, e7⟩ : ∃ x9, x9 = h9 := ⟨_, rfl⟩
    subst e7
    generalize eO_1 : O ++ ([93]) = O_1 at o8 ln_1 ma_1 mb_1 ⊢
    have oh_1 := o8
    have g1_wr : h1 wr = some ((9, 0), .inr (10, [.ref q, .ref nw, .ref ow])) := k8 _ _ _ hwr (by simp; try omega)
    have g1_adS_bi : h1 (adS bi) = some ((r + 1, bi), .inr (4, [.int (nI bi), .int (fKi (S.2 bi)), .int (fTy (S.2 bi)), .int (fGr (S.2 bi)), .ref (na bi), .int (fCo (S.2 bi)), .int (fRe (S.2 bi)), .int (fDe (S.2 bi)), .int (nI (rq S (nI bi)))])) := k8 _ _ _ hfb9 (by simp; try omega)
    have kk1 : z_K (fun y => y = 4 ∨ y = 5) h h1 := kk0.tr k8
    refine W.eq (g2 := F0 m 21 ls []) rfl ?_
    have eF : O_1 = O ++ (cloO S (some bi)) := by rw [← eO_1]; rw [eC] <;> simp
    have eJ : jf j O_1.length = jf j (O ++ (cloO S (some bi))).length ∧ slj j O_1.length = slj j (O ++ (cloO S (some bi))).length := ⟨congrArg (fun x => jf j x.length) eF, congrArg (fun x => slj j x.length) eF⟩
    exact z_vret hx hb hr hlocks hw ⟨rfl, eF ▸ oh_1, kk1⟩ (by first | exact Nat.le_of_ble_eq_true rfl | (dsimp only; omega) | omega) (by first | exact Nat.le_of_ble_eq_true rfl | (dsimp only; omega) | omega) d_RecordWriter_putClosing_21

set_option maxHeartbeats 4000000 in
set_option maxRecDepth 100000 in
theorem c_putBetween0 (l : Launch) (g : z_G) (h : z_H) {wr q nw ow j : Nat} {O : List Nat} {r : Nat} {S : Sch} {fa9 ca : Nat} {adS na : Nat → Nat} {ff : Nat → Option Nat} {cf : Nat → Int32} {nf : Nat → Nat → Int32} {bi fi : Nat} (hwr : h wr = some ((9, 0), .inr (10, [.ref q, .ref nw, .ref ow]))) (hO : OutB g h ow j O) (hj : j ≤ 8) (hlen : O.length + (betO S none fi).length ≤ 262144) (hS : SchP g h r q S fa9 ca adS na ff cf nf) (hr0 : 100 ≤ r) (hbi : bi < S.1) (hfi : fi < S.1) : z_C l y_RecordWriter_putBetween prog_7_method_3_code 3 (Option.none : Option Jvm.ClassFile.FieldType) 5 160 (jf j (O ++ (betO S none fi)).length - jf j O.length) (slj j (O ++ (betO S none fi)).length - slj j O.length) g [.ref wr, .null, .ref (adS fi)] h (fun x h1 => x = none ∧ OutB g h1 ow j (O ++ (betO S none fi)) ∧ z_K (fun y => y = 4 ∨ y = 5) h h1) := by
  refine z_C.of (by decide) (Nat.le_of_ble_eq_true rfl) (fun pg en s m below meth cd A ls hx hb hml hr hts hown hlocks hnm hK hE hA hw hl => ?_)
  have hl : lv_has ls 3 [(0, .ref wr), (1, .null), (2, .ref (adS fi))] := hl
  have lX : (O ++ (betO S none fi)).length = O.length + (betO S none fi).length := List.length_append
  have mX := jf_mono j (show O.length ≤ (O ++ (betO S none fi)).length by omega)
  have hfb9 := (hS.2.2.2.1 bi hbi).2
  have hff9 := (hS.2.2.2.1 fi hfi).2
  have hnn9 := hS.2.2.2.2.1 fi hfi
  have hnl9 := (hS.2.2.2.2.2.1 fi hfi).1
  have hs8 : S.1 ≤ 128 := hS.2.2.2.2.2.2.2.1
  have lcn : (cloO S none).length = 0 := rfl
  have kk0 : z_K (fun y => y = 4 ∨ y = 5) h h := z_K.rf
  refine lv_aload_nN hx hb d_RecordWriter_putBetween_0 rfl (lv_at hl 1 rfl) ?_
  refine lv_ifnullN (tgt := 25) hx hb d_RecordWriter_putBetween_1 (by decide) ?_
  have eB : betO S none fi = cloO S none ++ [] ++ hdO S fi := by simp [betO, cloO]
  have lh := hdO_len S fi
  have lB := congrArg List.length eB
  simp only [List.length_append, List.length_cons, List.length_nil] at lB
  refine lv_aload_n hx hb d_RecordWriter_putBetween_25 rfl (lv_at hl 0 rfl) ?_
  refine lv_aload_nN hx hb d_RecordWriter_putBetween_26 rfl (lv_at hl 1 rfl) ?_
  have ln_1 : (O ++ (cloO S none)).length = O.length + (cloO S none).length := List.length_append
  have ma_1 := jf_mono j (show O.length ≤ (O ++ (cloO S none)).length by omega)
  have mb_1 := jf_mono j (show (O ++ (cloO S none)).length ≤ (O ++ (betO S none fi)).length by omega)
  refine z_callV (n := 1) (As := [.null]) (rest := []) ⟨hx, hb, hml, hown, hts⟩ (c_putClosing0 (r := r) (S := S) (fa9 := fa9) (ca := ca) (adS := adS) (na := na) (ff := ff) (cf := cf) (nf := nf) (O := O) l g h hwr hO hj (by show _ + 0 ≤ _; omega)) (z_in k_718 rfl) (z_in k_19 rfl) (z_in k_715 rfl) (z_in k_717 rfl) (z_in ks_18 rfl) (by decide +kernel) ⟨by first | exact Nat.le_of_ble_eq_true rfl | (dsimp only; omega) | omega, by first | exact Nat.le_of_ble_eq_true rfl | (dsimp only; omega) | omega⟩ hK hE hw hA rfl hwr rfl hl.1 (Nat.le_of_ble_eq_true rfl) d_RecordWriter_putBetween_27 ⟨by first | exact Nat.le_of_ble_eq_true rfl | (dsimp only; omega) | omega, by first | exact Nat.le_of_ble_eq_true rfl | (dsimp only; omega) | omega⟩ rfl (fun r9 h9 H locs hp hw => ?_)
  obtain ⟨r8, o8, k8⟩ := hp
  subst r8
  obtain ⟨h1, e7⟩ : ∃ x9, x9 = h9 := ⟨_, rfl⟩
  subst e7
  generalize eO_1 : O ++ (cloO S none) = O_1 at o8 ln_1 ma_1 mb_1 ⊢
  have oh_1 := o8
  have g1_wr : h1 wr = some ((9, 0), .inr (10, [.ref q, .ref nw, .ref ow])) := k8 _ _ _ hwr (by simp; try omega)
  have g1_adS_fi : h1 (adS fi) = some ((r + 1, fi), .inr (4, [.int (nI fi), .int (fKi (S.2 fi)), .int (fTy (S.2 fi)), .int (fGr (S.2 fi)), .ref (na fi), .int (fCo (S.2 fi)), .int (fRe (S.2 fi)), .int (fDe (S.2 fi)), .int (nI (rq S (nI fi)))])) := k8 _ _ _ hff9 (by simp; try omega)
  have g1_na_fi : h1 (na fi) = some ((r + 2, fi), .inl (g.2.1 0, (fNm (S.2 fi)).length, .inl (nf fi))) := k8 _ _ _ hnn9 (by simp; try omega)
  have kk1 : z_K (fun y => y = 4 ∨ y = 5) h h1 := kk0.tr k8
  refine W.eq (g2 := F0 m 30 ls []) rfl ?_
  refine lv_aload_nN hx hb d_RecordWriter_putBetween_30 rfl (lv_at hl 1 rfl) ?_
  refine lv_ifnullN (tgt := 43) hx hb d_RecordWriter_putBetween_31 (by decide) ?_
  refine lv_aload_n hx hb d_RecordWriter_putBetween_43 rfl (lv_at hl 0 rfl) ?_
  refine lv_aload_n hx hb d_RecordWriter_putBetween_44 rfl (lv_at hl 2 rfl) ?_
  refine z_getN hx hb hts (z_lay i_Field) hown hK hw g1_adS_fi rfl 4 (by decide) hE.nest (z_inN k_417 rfl) (fun _ h9 => h9) rfl d_RecordWriter_putBetween_45 ?_
  have ln_2 : (O_1 ++ (fNm (S.2 fi))).length = O_1.length + (fNm (S.2 fi)).length := List.length_append
  have ma_2 := jf_mono j (show O_1.length ≤ (O_1 ++ (fNm (S.2 fi))).length by omega)
  have mb_2 := jf_mono j (show (O_1 ++ (fNm (S.2 fi))).length ≤ (O ++ (betO S none fi)).length by omega)
  refine z_callV (n := 1) (As := [.ref (na fi)]) (rest := []) ⟨hx, hb, hml, hown, hts⟩ (c_putBytes (O := O_1) (lq := fNm (S.2 fi)) l g h1 g1_wr g1_na_fi oh_1 hj (by omega) ⟨by dsimp only; omega, by dsimp only; omega⟩ ⟨by omega, fun k hk => ⟨by have := ((hS.2.2.2.2.2.1 fi hfi).2 k hk).1; omega, ((hS.2.2.2.2.2.1 fi hfi).2 k hk).2⟩⟩) (z_in k_722 rfl) (z_in k_19 rfl) (z_in k_719 rfl) (z_in k_721 rfl) (z_in ks_19 rfl) (by decide +kernel) ⟨by first | exact Nat.le_of_ble_eq_true rfl | (dsimp only; omega) | omega, by first | exact Nat.le_of_ble_eq_true rfl | (dsimp only; omega) | omega⟩ hK hE hw hA rfl g1_wr rfl hl.1 (Nat.le_of_ble_eq_true rfl) d_RecordWriter_putBetween_48 ⟨by first | exact Nat.le_of_ble_eq_true rfl | (dsimp only; omega) | omega, by first | exact Nat.le_of_ble_eq_true rfl | (dsimp only; omega) | omega⟩ rfl (fun r9 h9 H locs hp hw => ?_)
  obtain ⟨r8, o8, k8⟩ := hp
  subst r8
  obtain ⟨h2, e7⟩ : ∃ x9, x9 = h9 := ⟨_, rfl⟩
  subst e7
  generalize eO_2 : O_1 ++ (fNm (S.2 fi)) = O_2 at o8 ln_2 ma_2 mb_2 ⊢
  have oh_2 := o8
  have g2_wr : h2 wr = some ((9, 0), .inr (10, [.ref q, .ref nw, .ref ow])) := k8 _ _ _ g1_wr (by simp; try omega)
  have g2_adS_fi : h2 (adS fi) = some ((r + 1, fi), .inr (4, [.int (nI fi), .int (fKi (S.2 fi)), .int (fTy (S.2 fi)), .int (fGr (S.2 fi)), .ref (na fi), .int (fCo (S.2 fi)), .int (fRe (S.2 fi)), .int (fDe (S.2 fi)), .int (nI (rq S (nI fi)))])) := k8 _ _ _ g1_adS_fi (by simp; try omega)
  have g2_na_fi : h2 (na fi) = some ((r + 2, fi), .inl (g.2.1 0, (fNm (S.2 fi)).length, .inl (nf fi))) := k8 _ _ _ g1_na_fi (by simp; try omega)
  have kk2 : z_K (fun y => y = 4 ∨ y = 5) h h2 := kk1.tr k8
  refine W.eq (g2 := F0 m 51 ls []) rfl ?_
  refine lv_aload_n hx hb d_RecordWriter_putBetween_51 rfl (lv_at hl 0 rfl) ?_
  refine z_get hx hb hts (z_lay i_RecordWriter) hown hK hw g2_wr rfl 2 (by decide) (z_in k_691 rfl) (fun _ h9 => h9) rfl d_RecordWriter_putBetween_52 ?_
  refine lv_bipush (v := 58) hx hb d_RecordWriter_putBetween_55 (by decide) ?_
  obtain ⟨ob_3, f_3, how_3, -⟩ := id oh_2
  have ln_3 : (O_2 ++ ([58])).length = O_2.length + ([58]).length := List.length_append
  simp only [List.length_cons, List.length_nil] at ln_3
  have ma_3 := jf_mono j (show O_2.length ≤ (O_2 ++ ([58])).length by omega)
  have mb_3 := jf_mono j (show (O_2 ++ ([58])).length ≤ (O ++ (betO S none fi)).length by omega)
  refine z_callV (n := 1) (As := [.int 58]) (rest := []) ⟨hx, hb, hml, hown, hts⟩ (c_put2 (O := O_2) (b := 58) l g h2 oh_2 ⟨by decide, by decide⟩ (by omega) hj) (z_in k_707 rfl) (z_in k_3 rfl) (z_in k_704 rfl) (z_in k_705 rfl) (z_in k_706 rfl) (by decide +kernel) ⟨by first | exact Nat.le_of_ble_eq_true rfl | (dsimp only; omega) | omega, by first | exact Nat.le_of_ble_eq_true rfl | (dsimp only; omega) | omega⟩ hK hE hw hA rfl how_3 rfl hl.1 (Nat.le_of_ble_eq_true rfl) d_RecordWriter_putBetween_57 ⟨by first | exact Nat.le_of_ble_eq_true rfl | (dsimp only; omega) | omega, by first | exact Nat.le_of_ble_eq_true rfl | (dsimp only; omega) | omega⟩ rfl (fun r9 h9 H locs hp hw => ?_)
  obtain ⟨r8, o8, k8⟩ := hp
  subst r8
  obtain ⟨h3, e7⟩ : ∃ x9, x9 = h9 := ⟨_, rfl⟩
  subst e7
  generalize eO_3 : O_2 ++ ([58]) = O_3 at o8 ln_3 ma_3 mb_3 ⊢
  have oh_3 := o8
  have g3_wr : h3 wr = some ((9, 0), .inr (10, [.ref q, .ref nw, .ref ow])) := k8 _ _ _ g2_wr (by simp; try omega)
  have g3_adS_fi : h3 (adS fi) = some ((r + 1, fi), .inr (4, [.int (nI fi), .int (fKi (S.2 fi)), .int (fTy (S.2 fi)), .int (fGr (S.2 fi)), .ref (na fi), .int (fCo (S.2 fi)), .int (fRe (S.2 fi)), .int (fDe (S.2 fi)), .int (nI (rq S (nI fi)))])) := k8 _ _ _ g2_adS_fi (by simp; try omega)
  have g3_na_fi : h3 (na fi) = some ((r + 2, fi), .inl (g.2.1 0, (fNm (S.2 fi)).length, .inl (nf fi))) := k8 _ _ _ g2_na_fi (by simp; try omega)
  have kk3 : z_K (fun y => y = 4 ∨ y = 5) h h3 := kk2.tr k8
  refine W.eq (g2 := F0 m 60 ls []) rfl ?_
  refine lv_aload_n hx hb d_RecordWriter_putBetween_60 rfl (lv_at hl 2 rfl) ?_
  refine z_getN hx hb hts (z_lay i_Field) hown hK hw g3_adS_fi rfl 1 (by decide) hE.nest (z_inN k_405 rfl) (fun _ h9 => h9) rfl d_RecordWriter_putBetween_61 ?_
  refine lv_iconst (v := 2) hx hb d_RecordWriter_putBetween_64 (by decide) ?_
  refine lv_icmp_ne (tgt := 77) hx hb d_RecordWriter_putBetween_65 (by decide) (fun c_65 => ?_) (fun c_65 => ?_)
  · -- 65: True
    have eO9 : opO S fi = [] := if_neg c_65
    have eF : O_3 = O ++ (betO S none fi) := by rw [← eO_3, ← eO_2, ← eO_1]; rw [eB]; unfold hdO; rw [eO9]; simp
    have eJ : jf j O_3.length = jf j (O ++ (betO S none fi)).length ∧ slj j O_3.length = slj j (O ++ (betO S none fi)).length := ⟨congrArg (fun x => jf j x.length) eF, congrArg (fun x => slj j x.length) eF⟩
    exact z_vret hx hb hr hlocks hw ⟨rfl, eF ▸ oh_3, kk3⟩ (by first | exact Nat.le_of_ble_eq_true rfl | (dsimp only; omega) | omega) (by first | exact Nat.le_of_ble_eq_true rfl | (dsimp only; omega) | omega) d_RecordWriter_putBetween_77
  · -- 65: False
    have eO9 : opO S fi = [91] := if_pos c_65
    have lO9 := congrArg List.length eO9
    simp only [List.length_cons, List.length_nil] at lO9
    refine lv_aload_n hx hb d_RecordWriter_putBetween_68 rfl (lv_at hl 0 rfl) ?_
    refine z_get hx hb hts (z_lay i_RecordWriter) hown hK hw g3_wr rfl 2 (by decide) (z_in k_691 rfl) (fun _ h9 => h9) rfl d_RecordWriter_putBetween_69 ?_
    refine lv_bipush (v := 91) hx hb d_RecordWriter_putBetween_72 (by decide) ?_
    obtain ⟨ob_4, f_4, how_4, -⟩ := id oh_3
    have ln_4 : (O_3 ++ ([91])).length = O_3.length + ([91]).length := List.length_append
    simp only [List.length_cons, List.length_nil] at ln_4
    have ma_4 := jf_mono j (show O_3.length ≤ (O_3 ++ ([91])).length by omega)
    have mb_4 := jf_mono j (show (O_3 ++ ([91])).length ≤ (O ++ (betO S none fi)).length by omega)
    refine z_callV (n := 1) (As := [.int 91]) (rest := []) ⟨hx, hb, hml, hown, hts⟩ (c_put2 (O := O_3) (b := 91) l g h3 oh_3 ⟨by decide, by decide⟩ (by omega) hj) (z_in k_707 rfl) (z_in k_3 rfl) (z_in k_704 rfl) (z_in k_705 rfl) (z_in k_706 rfl) (by decide +kernel) ⟨by first | exact Nat.le_of_ble_eq_true rfl | (dsimp only; omega) | omega, by first | exact Nat.le_of_ble_eq_true rfl | (dsimp only; omega) | omega⟩ hK hE hw hA rfl how_4 rfl hl.1 (Nat.le_of_ble_eq_true rfl) d_RecordWriter_putBetween_74 ⟨by first | exact Nat.le_of_ble_eq_true rfl | (dsimp only; omega) | omega, by first | exact Nat.le_of_ble_eq_true rfl | (dsimp only; omega) | omega⟩ rfl (fun r9 h9 H locs hp hw => ?_)
    obtain ⟨r8, o8, k8⟩ := hp
    subst r8
    obtain ⟨h4, e7⟩ : ∃ x9, x9 = h9 := ⟨_, rfl⟩
    subst e7
    generalize eO_4 : O_3 ++ ([91]) = O_4 at o8 ln_4 ma_4 mb_4 ⊢
    have oh_4 := o8
    have g4_wr : h4 wr = some ((9, 0), .inr (10, [.ref q, .ref nw, .ref ow])) := k8 _ _ _ g3_wr (by simp; try omega)
    have g4_adS_fi : h4 (adS fi) = some ((r + 1, fi), .inr (4, [.int (nI fi), .int (fKi (S.2 fi)), .int (fTy (S.2 fi)), .int (fGr (S.2 fi)), .ref (na fi), .int (fCo (S.2 fi)), .int (fRe (S.2 fi)), .int (fDe (S.2 fi)), .int (nI (rq S (nI fi)))])) := k8 _ _ _ g3_adS_fi (by simp; try omega)
    have g4_na_fi : h4 (na fi) = some ((r + 2, fi), .inl (g.2.1 0, (fNm (S.2 fi)).length, .inl (nf fi))) := k8 _ _ _ g3_na_fi (by simp; try omega)
    have kk4 : z_K (fun y => y = 4 ∨ y = 5) h h4 := kk3.tr k8
    refine W.eq (g2 := F0 m 77 ls []) rfl ?_
    have eF : O_4 = O ++ (betO S none fi) := by rw [← eO_4, ← eO_3, ← eO_2, ← eO_1]; rw [eB]; unfold hdO; rw [eO9]; simp
    have eJ : jf j O_4.length = jf j (O ++ (betO S none fi)).length ∧ slj j O_4.length = slj j (O ++ (betO S none fi)).length := ⟨congrArg (fun x => jf j x.length) eF, congrArg (fun x => slj j x.length) eF⟩
    exact z_vret hx hb hr hlocks hw ⟨rfl, eF ▸ oh_4, kk4⟩ (by first | exact Nat.le_of_ble_eq_true rfl | (dsimp only; omega) | omega) (by first | exact Nat.le_of_ble_eq_true rfl | (dsimp only; omega) | omega) d_RecordWriter_putBetween_77

set_option maxHeartbeats 4000000 in
set_option maxRecDepth 100000 in
theorem c_putBetween1 (l : Launch) (g : z_G) (h : z_H) {wr q nw ow j : Nat} {O : List Nat} {r : Nat} {S : Sch} {fa9 ca : Nat} {adS na : Nat → Nat} {ff : Nat → Option Nat} {cf : Nat → Int32} {nf : Nat → Nat → Int32} {bi fi : Nat} (hwr : h wr = some ((9, 0), .inr (10, [.ref q, .ref nw, .ref ow]))) (hO : OutB g h ow j O) (hj : j ≤ 8) (hlen : O.length + (betO S (some bi) fi).length ≤ 262144) (hS : SchP g h r q S fa9 ca adS na ff cf nf) (hr0 : 100 ≤ r) (hbi : bi < S.1) (hfi : fi < S.1) : z_C l y_RecordWriter_putBetween prog_7_method_3_code 3 (Option.none : Option Jvm.ClassFile.FieldType) 5 160 (jf j (O ++ (betO S (some bi) fi)).length - jf j O.length) (slj j (O ++ (betO S (some bi) fi)).length - slj j O.length) g [.ref wr, .ref (adS bi), .ref (adS fi)] h (fun x h1 => x = none ∧ OutB g h1 ow j (O ++ (betO S (some bi) fi)) ∧ z_K (fun y => y = 4 ∨ y = 5) h h1) := by
  refine z_C.of (by decide) (Nat.le_of_ble_eq_true rfl) (fun pg en s m below meth cd A ls hx hb hml hr hts hown hlocks hnm hK hE hA hw hl => ?_)
  have hl : lv_has ls 3 [(0, .ref wr), (1, .ref (adS bi)), (2, .ref (adS fi))] := hl
  have lX : (O ++ (betO S (some bi) fi)).length = O.length + (betO S (some bi) fi).length := List.length_append
  have mX := jf_mono j (show O.length ≤ (O ++ (betO S (some bi) fi)).length by omega)
  have hfb9 := (hS.2.2.2.1 bi hbi).2
  have hff9 := (hS.2.2.2.1 fi hfi).2
  have hnn9 := hS.2.2.2.2.1 fi hfi
  have hnl9 := (hS.2.2.2.2.2.1 fi hfi).1
  have hs8 : S.1 ≤ 128 := hS.2.2.2.2.2.2.2.1
  have lcn : (cloO S none).length = 0 := rfl
  have kk0 : z_K (fun y => y = 4 ∨ y = 5) h h := z_K.rf
  refine lv_aload_n hx hb d_RecordWriter_putBetween_0 rfl (lv_at hl 1 rfl) ?_
  refine lv_ifnull hx hb d_RecordWriter_putBetween_1 ?_
  refine lv_aload_n hx hb d_RecordWriter_putBetween_4 rfl (lv_at hl 1 rfl) ?_
  refine z_getN hx hb hts (z_lay i_Field) hown hK hw hfb9 rfl 0 (by decide) hE.nest (z_inN k_401 rfl) (fun _ h9 => h9) rfl d_RecordWriter_putBetween_5 ?_
  refine lv_aload_n hx hb d_RecordWriter_putBetween_8 rfl (lv_at hl 2 rfl) ?_
  refine z_getN hx hb hts (z_lay i_Field) hown hK hw hff9 rfl 0 (by decide) hE.nest (z_inN k_401 rfl) (fun _ h9 => h9) rfl d_RecordWriter_putBetween_9 ?_
  refine lv_icmp_ne (tgt := 25) hx hb d_RecordWriter_putBetween_12 (by decide) (fun c_12 => ?_) (fun c_12 => ?_)
  · -- 12: True
    have c_12 : ¬ (bi = fi) := fun z => c_12 ((nI_eq (a := bi) (b := fi) (by omega) (by omega)).mpr z)
    have eB : betO S (some bi) fi = cloO S (some bi) ++ [44] ++ hdO S fi := if_neg c_12
    have lh := hdO_len S fi
    have lB := congrArg List.length eB
    simp only [List.length_append, List.length_cons, List.length_nil] at lB
    refine lv_aload_n hx hb d_RecordWriter_putBetween_25 rfl (lv_at hl 0 rfl) ?_
    refine lv_aload_n hx hb d_RecordWriter_putBetween_26 rfl (lv_at hl 1 rfl) ?_
    have ln_1 : (O ++ (cloO S (some bi))).length = O.length + (cloO S (some bi)).length := List.length_append
    have ma_1 := jf_mono j (show O.length ≤ (O ++ (cloO S (some bi))).length by omega)
    have mb_1 := jf_mono j (show (O ++ (cloO S (some bi))).length ≤ (O ++ (betO S (some bi) fi)).length by omega)
    refine z_callV (n := 1) (As := [.ref (adS bi)]) (rest := []) ⟨hx, hb, hml, hown, hts⟩ (c_putClosing1 (bi := bi) (O := O) l g h hwr hO hj (by omega) hS hr0 hbi) (z_in k_718 rfl) (z_in k_19 rfl) (z_in k_715 rfl) (z_in k_717 rfl) (z_in ks_18 rfl) (by decide +kernel) ⟨by first | exact Nat.le_of_ble_eq_true rfl | (dsimp only; omega) | omega, by first | exact Nat.le_of_ble_eq_true rfl | (dsimp only; omega) | omega⟩ hK hE hw hA rfl hwr rfl hl.1 (Nat.le_of_ble_eq_true rfl) d_RecordWriter_putBetween_27 ⟨by first | exact Nat.le_of_ble_eq_true rfl | (dsimp only; omega) | omega, by first | exact Nat.le_of_ble_eq_true rfl | (dsimp only; omega) | omega⟩ rfl (fun r9 h9 H locs hp hw => ?_)
    obtain ⟨r8, o8, k8⟩ := hp
    subst r8
    obtain ⟨h1, e7⟩ : ∃ x9, x9 = h9 := ⟨_, rfl⟩
    subst e7
    generalize eO_1 : O ++ (cloO S (some bi)) = O_1 at o8 ln_1 ma_1 mb_1 ⊢
    have oh_1 := o8
    have g1_wr : h1 wr = some ((9, 0), .inr (10, [.ref q, .ref nw, .ref ow])) := k8 _ _ _ hwr (by simp; try omega)
    have g1_adS_fi : h1 (adS fi) = some ((r + 1, fi), .inr (4, [.int (nI fi), .int (fKi (S.2 fi)), .int (fTy (S.2 fi)), .int (fGr (S.2 fi)), .ref (na fi), .int (fCo (S.2 fi)), .int (fRe (S.2 fi)), .int (fDe (S.2 fi)), .int (nI (rq S (nI fi)))])) := k8 _ _ _ hff9 (by simp; try omega)
    have g1_adS_bi : h1 (adS bi) = some ((r + 1, bi), .inr (4, [.int (nI bi), .int (fKi (S.2 bi)), .int (fTy (S.2 bi)), .int (fGr (S.2 bi)), .ref (na bi), .int (fCo (S.2 bi)), .int (fRe (S.2 bi)), .int (fDe (S.2 bi)), .int (nI (rq S (nI bi)))])) := k8 _ _ _ hfb9 (by simp; try omega)
    have g1_na_fi : h1 (na fi) = some ((r + 2, fi), .inl (g.2.1 0, (fNm (S.2 fi)).length, .inl (nf fi))) := k8 _ _ _ hnn9 (by simp; try omega)
    have kk1 : z_K (fun y => y = 4 ∨ y = 5) h h1 := kk0.tr k8
    refine W.eq (g2 := F0 m 30 ls []) rfl ?_
    refine lv_aload_n hx hb d_RecordWriter_putBetween_30 rfl (lv_at hl 1 rfl) ?_
    refine lv_ifnull hx hb d_RecordWriter_putBetween_31 ?_
    refine lv_aload_n hx hb d_RecordWriter_putBetween_34 rfl (lv_at hl 0 rfl) ?_
    refine z_get hx hb hts (z_lay i_RecordWriter) hown hK hw g1_wr rfl 2 (by decide) (z_in k_691 rfl) (fun _ h9 => h9) rfl d_RecordWriter_putBetween_35 ?_
    refine lv_bipush (v := 44) hx hb d_RecordWriter_putBetween_38 (by decide) ?_
    obtain ⟨ob_2, f_2, how_2, -⟩ := id oh_1
    have ln_2 : (O_1 ++ ([44])).length = O_1.length + ([44]).length := List.length_append
    simp only [List.length_cons, List.length_nil] at ln_2
    have ma_2 := jf_mono j (show O_1.length ≤ (O_1 ++ ([44])).length by omega)
    have mb_2 := jf_mono j (show (O_1 ++ ([44])).length ≤ (O ++ (betO S (some bi) fi)).length by omega)
    refine z_callV (n := 1) (As := [.int 44]) (rest := []) ⟨hx, hb, hml, hown, hts⟩ (c_put2 (O := O_1) (b := 44) l g h1 oh_1 ⟨by decide, by decide⟩ (by omega) hj) (z_in k_707 rfl) (z_in k_3 rfl) (z_in k_704 rfl) (z_in k_705 rfl) (z_in k_706 rfl) (by decide +kernel) ⟨by first | exact Nat.le_of_ble_eq_true rfl | (dsimp only; omega) | omega, by first | exact Nat.le_of_ble_eq_true rfl | (dsimp only; omega) | omega⟩ hK hE hw hA rfl how_2 rfl hl.1 (Nat.le_of_ble_eq_true rfl) d_RecordWriter_putBetween_40 ⟨by first | exact Nat.le_of_ble_eq_true rfl | (dsimp only; omega) | omega, by first | exact Nat.le_of_ble_eq_true rfl | (dsimp only; omega) | omega⟩ rfl (fun r9 h9 H locs hp hw => ?_)
    obtain ⟨r8, o8, k8⟩ := hp
    subst r8
    obtain ⟨h2, e7⟩ : ∃ x9, x9 = h9 := ⟨_, rfl⟩
    subst e7
    generalize eO_2 : O_1 ++ ([44]) = O_2 at o8 ln_2 ma_2 mb_2 ⊢
    have oh_2 := o8
    have g2_wr : h2 wr = some ((9, 0), .inr (10, [.ref q, .ref nw, .ref ow])) := k8 _ _ _ g1_wr (by simp; try omega)
    have g2_adS_fi : h2 (adS fi) = some ((r + 1, fi), .inr (4, [.int (nI fi), .int (fKi (S.2 fi)), .int (fTy (S.2 fi)), .int (fGr (S.2 fi)), .ref (na fi), .int (fCo (S.2 fi)), .int (fRe (S.2 fi)), .int (fDe (S.2 fi)), .int (nI (rq S (nI fi)))])) := k8 _ _ _ g1_adS_fi (by simp; try omega)
    have g2_adS_bi : h2 (adS bi) = some ((r + 1, bi), .inr (4, [.int (nI bi), .int (fKi (S.2 bi)), .int (fTy (S.2 bi)), .int (fGr (S.2 bi)), .ref (na bi), .int (fCo (S.2 bi)), .int (fRe (S.2 bi)), .int (fDe (S.2 bi)), .int (nI (rq S (nI bi)))])) := k8 _ _ _ g1_adS_bi (by simp; try omega)
    have g2_na_fi : h2 (na fi) = some ((r + 2, fi), .inl (g.2.1 0, (fNm (S.2 fi)).length, .inl (nf fi))) := k8 _ _ _ g1_na_fi (by simp; try omega)
    have kk2 : z_K (fun y => y = 4 ∨ y = 5) h h2 := kk1.tr k8
    refine W.eq (g2 := F0 m 43 ls []) rfl ?_
    refine lv_aload_n hx hb d_RecordWriter_putBetween_43 rfl (lv_at hl 0 rfl) ?_
    refine lv_aload_n hx hb d_RecordWriter_putBetween_44 rfl (lv_at hl 2 rfl) ?_
    refine z_getN hx hb hts (z_lay i_Field) hown hK hw g2_adS_fi rfl 4 (by decide) hE.nest (z_inN k_417 rfl) (fun _ h9 => h9) rfl d_RecordWriter_putBetween_45 ?_
    have ln_3 : (O_2 ++ (fNm (S.2 fi))).length = O_2.length + (fNm (S.2 fi)).length := List.length_append
    have ma_3 := jf_mono j (show O_2.length ≤ (O_2 ++ (fNm (S.2 fi))).length by omega)
    have mb_3 := jf_mono j (show (O_2 ++ (fNm (S.2 fi))).length ≤ (O ++ (betO S (some bi) fi)).length by omega)
    refine z_callV (n := 1) (As := [.ref (na fi)]) (rest := []) ⟨hx, hb, hml, hown, hts⟩ (c_putBytes (O := O_2) (lq := fNm (S.2 fi)) l g h2 g2_wr g2_na_fi oh_2 hj (by omega) ⟨by dsimp only; omega, by dsimp only; omega⟩ ⟨by omega, fun k hk => ⟨by have := ((hS.2.2.2.2.2.1 fi hfi).2 k hk).1; omega, ((hS.2.2.2.2.2.1 fi hfi).2 k hk).2⟩⟩) (z_in k_722 rfl) (z_in k_19 rfl) (z_in k_719 rfl) (z_in k_721 rfl) (z_in ks_19 rfl) (by decide +kernel) ⟨by first | exact Nat.le_of_ble_eq_true rfl | (dsimp only; omega) | omega, by first | exact Nat.le_of_ble_eq_true rfl | (dsimp only; omega) | omega⟩ hK hE hw hA rfl g2_wr rfl hl.1 (Nat.le_of_ble_eq_true rfl) d_RecordWriter_putBetween_48 ⟨by first | exact Nat.le_of_ble_eq_true rfl | (dsimp only; omega) | omega, by first | exact Nat.le_of_ble_eq_true rfl | (dsimp only; omega) | omega⟩ rfl (fun r9 h9 H locs hp hw => ?_)
    obtain ⟨r8, o8, k8⟩ := hp
    subst r8
    obtain ⟨h3, e7⟩ : ∃ x9, x9 = h9 := ⟨_, rfl⟩
    subst e7
    generalize eO_3 : O_2 ++ (fNm (S.2 fi)) = O_3 at o8 ln_3 ma_3 mb_3 ⊢
    have oh_3 := o8
    have g3_wr : h3 wr = some ((9, 0), .inr (10, [.ref q, .ref nw, .ref ow])) := k8 _ _ _ g2_wr (by simp; try omega)
    have g3_adS_fi : h3 (adS fi) = some ((r + 1, fi), .inr (4, [.int (nI fi), .int (fKi (S.2 fi)), .int (fTy (S.2 fi)), .int (fGr (S.2 fi)), .ref (na fi), .int (fCo (S.2 fi)), .int (fRe (S.2 fi)), .int (fDe (S.2 fi)), .int (nI (rq S (nI fi)))])) := k8 _ _ _ g2_adS_fi (by simp; try omega)
    have g3_adS_bi : h3 (adS bi) = some ((r + 1, bi), .inr (4, [.int (nI bi), .int (fKi (S.2 bi)), .int (fTy (S.2 bi)), .int (fGr (S.2 bi)), .ref (na bi), .int (fCo (S.2 bi)), .int (fRe (S.2 bi)), .int (fDe (S.2 bi)), .int (nI (rq S (nI bi)))])) := k8 _ _ _ g2_adS_bi (by simp; try omega)
    have g3_na_fi : h3 (na fi) = some ((r + 2, fi), .inl (g.2.1 0, (fNm (S.2 fi)).length, .inl (nf fi))) := k8 _ _ _ g2_na_fi (by simp; try omega)
    have kk3 : z_K (fun y => y = 4 ∨ y = 5) h h3 := kk2.tr k8
    refine W.eq (g2 := F0 m 51 ls []) rfl ?_
    refine lv_aload_n hx hb d_RecordWriter_putBetween_51 rfl (lv_at hl 0 rfl) ?_
    refine z_get hx hb hts (z_lay i_RecordWriter) hown hK hw g3_wr rfl 2 (by decide) (z_in k_691 rfl) (fun _ h9 => h9) rfl d_RecordWriter_putBetween_52 ?_
    refine lv_bipush (v := 58) hx hb d_RecordWriter_putBetween_55 (by decide) ?_
    obtain ⟨ob_4, f_4, how_4, -⟩ := id oh_3
    have ln_4 : (O_3 ++ ([58])).length = O_3.length + ([58]).length := List.length_append
    simp only [List.length_cons, List.length_nil] at ln_4
    have ma_4 := jf_mono j (show O_3.length ≤ (O_3 ++ ([58])).length by omega)
    have mb_4 := jf_mono j (show (O_3 ++ ([58])).length ≤ (O ++ (betO S (some bi) fi)).length by omega)
    refine z_callV (n := 1) (As := [.int 58]) (rest := []) ⟨hx, hb, hml, hown, hts⟩ (c_put2 (O := O_3) (b := 58) l g h3 oh_3 ⟨by decide, by decide⟩ (by omega) hj) (z_in k_707 rfl) (z_in k_3 rfl) (z_in k_704 rfl) (z_in k_705 rfl) (z_in k_706 rfl) (by decide +kernel) ⟨by first | exact Nat.le_of_ble_eq_true rfl | (dsimp only; omega) | omega, by first | exact Nat.le_of_ble_eq_true rfl | (dsimp only; omega) | omega⟩ hK hE hw hA rfl how_4 rfl hl.1 (Nat.le_of_ble_eq_true rfl) d_RecordWriter_putBetween_57 ⟨by first | exact Nat.le_of_ble_eq_true rfl | (dsimp only; omega) | omega, by first | exact Nat.le_of_ble_eq_true rfl | (dsimp only; omega) | omega⟩ rfl (fun r9 h9 H locs hp hw => ?_)
    obtain ⟨r8, o8, k8⟩ := hp
    subst r8
    obtain ⟨h4, e7⟩ : ∃ x9, x9 = h9 := ⟨_, rfl⟩
    subst e7
    generalize eO_4 : O_3 ++ ([58]) = O_4 at o8 ln_4 ma_4 mb_4 ⊢
    have oh_4 := o8
    have g4_wr : h4 wr = some ((9, 0), .inr (10, [.ref q, .ref nw, .ref ow])) := k8 _ _ _ g3_wr (by simp; try omega)
    have g4_adS_fi : h4 (adS fi) = some ((r + 1, fi), .inr (4, [.int (nI fi), .int (fKi (S.2 fi)), .int (fTy (S.2 fi)), .int (fGr (S.2 fi)), .ref (na fi), .int (fCo (S.2 fi)), .int (fRe (S.2 fi)), .int (fDe (S.2 fi)), .int (nI (rq S (nI fi)))])) := k8 _ _ _ g3_adS_fi (by simp; try omega)
    have g4_adS_bi : h4 (adS bi) = some ((r + 1, bi), .inr (4, [.int (nI bi), .int (fKi (S.2 bi)), .int (fTy (S.2 bi)), .int (fGr (S.2 bi)), .ref (na bi), .int (fCo (S.2 bi)), .int (fRe (S.2 bi)), .int (fDe (S.2 bi)), .int (nI (rq S (nI bi)))])) := k8 _ _ _ g3_adS_bi (by simp; try omega)
    have g4_na_fi : h4 (na fi) = some ((r + 2, fi), .inl (g.2.1 0, (fNm (S.2 fi)).length, .inl (nf fi))) := k8 _ _ _ g3_na_fi (by simp; try omega)
    have kk4 : z_K (fun y => y = 4 ∨ y = 5) h h4 := kk3.tr k8
    refine W.eq (g2 := F0 m 60 ls []) rfl ?_
    refine lv_aload_n hx hb d_RecordWriter_putBetween_60 rfl (lv_at hl 2 rfl) ?_
    refine z_getN hx hb hts (z_lay i_Field) hown hK hw g4_adS_fi rfl 1 (by decide) hE.nest (z_inN k_405 rfl) (fun _ h9 => h9) rfl d_RecordWriter_putBetween_61 ?_
    refine lv_iconst (v := 2) hx hb d_RecordWriter_putBetween_64 (by decide) ?_
    refine lv_icmp_ne (tgt := 77) hx hb d_RecordWriter_putBetween_65 (by decide) (fun c_65 => ?_) (fun c_65 => ?_)
    · -- 65: True
      have eO9 : opO S fi = [] := if_neg c_65
      have eF : O_4 = O ++ (betO S (some bi) fi) := by rw [← eO_4, ← eO_3, ← eO_2, ← eO_1]; rw [eB]; unfold hdO; rw [eO9]; simp
      have eJ : jf j O_4.length = jf j (O ++ (betO S (some bi) fi)).length ∧ slj j O_4.length = slj j (O ++ (betO S (some bi) fi)).length := ⟨congrArg (fun x => jf j x.length) eF, congrArg (fun x => slj j x.length) eF⟩
      exact z_vret hx hb hr hlocks hw ⟨rfl, eF ▸ oh_4, kk4⟩ (by first | exact Nat.le_of_ble_eq_true rfl | (dsimp only; omega) | omega) (by first | exact Nat.le_of_ble_eq_true rfl | (dsimp only; omega) | omega) d_RecordWriter_putBetween_77
    · -- 65: False
      have eO9 : opO S fi = [91] := if_pos c_65
      have lO9 := congrArg List.length eO9
      simp only [List.length_cons, List.length_nil] at lO9
      refine lv_aload_n hx hb d_RecordWriter_putBetween_68 rfl (lv_at hl 0 rfl) ?_
      refine z_get hx hb hts (z_lay i_RecordWriter) hown hK hw g4_wr rfl 2 (by decide) (z_in k_691 rfl) (fun _ h9 => h9) rfl d_RecordWriter_putBetween_69 ?_
      refine lv_bipush (v := 91) hx hb d_RecordWriter_putBetween_72 (by decide) ?_
      obtain ⟨ob_5, f_5, how_5, -⟩ := id oh_4
      have ln_5 : (O_4 ++ ([91])).length = O_4.length + ([91]).length := List.length_append
      simp only [List.length_cons, List.length_nil] at ln_5
      have ma_5 := jf_mono j (show O_4.length ≤ (O_4 ++ ([91])).length by omega)
      have mb_5 := jf_mono j (show (O_4 ++ ([91])).length ≤ (O ++ (betO S (some bi) fi)).length by omega)
      refine z_callV (n := 1) (As := [.int 91]) (rest := []) ⟨hx, hb, hml, hown, hts⟩ (c_put2 (O := O_4) (b := 91) l g h4 oh_4 ⟨by decide, by decide⟩ (by omega) hj) (z_in k_707 rfl) (z_in k_3 rfl) (z_in k_704 rfl) (z_in k_705 rfl) (z_in k_706 rfl) (by decide +kernel) ⟨by first | exact Nat.le_of_ble_eq_true rfl | (dsimp only; omega) | omega, by first | exact Nat.le_of_ble_eq_true rfl | (dsimp only; omega) | omega⟩ hK hE hw hA rfl how_5 rfl hl.1 (Nat.le_of_ble_eq_true rfl) d_RecordWriter_putBetween_74 ⟨by first | exact Nat.le_of_ble_eq_true rfl | (dsimp only; omega) | omega, by first | exact Nat.le_of_ble_eq_true rfl | (dsimp only; omega) | omega⟩ rfl (fun r9 h9 H locs hp hw => ?_)
      obtain ⟨r8, o8, k8⟩ := hp
      subst r8
      obtain ⟨h5, e7⟩ : ∃ x9, x9 = h9 := ⟨_, rfl⟩
      subst e7
      generalize eO_5 : O_4 ++ ([91]) = O_5 at o8 ln_5 ma_5 mb_5 ⊢
      have oh_5 := o8
      have g5_wr : h5 wr = some ((9, 0), .inr (10, [.ref q, .ref nw, .ref ow])) := k8 _ _ _ g4_wr (by simp; try omega)
      have g5_adS_fi : h5 (adS fi) = some ((r + 1, fi), .inr (4, [.int (nI fi), .int (fKi (S.2 fi)), .int (fTy (S.2 fi)), .int (fGr (S.2 fi)), .ref (na fi), .int (fCo (S.2 fi)), .int (fRe (S.2 fi)), .int (fDe (S.2 fi)), .int (nI (rq S (nI fi)))])) := k8 _ _ _ g4_adS_fi (by simp; try omega)
      have g5_adS_bi : h5 (adS bi) = some ((r + 1, bi), .inr (4, [.int (nI bi), .int (fKi (S.2 bi)), .int (fTy (S.2 bi)), .int (fGr (S.2 bi)), .ref (na bi), .int (fCo (S.2 bi)), .int (fRe (S.2 bi)), .int (fDe (S.2 bi)), .int (nI (rq S (nI bi)))])) := k8 _ _ _ g4_adS_bi (by simp; try omega)
      have g5_na_fi : h5 (na fi) = some ((r + 2, fi), .inl (g.2.1 0, (fNm (S.2 fi)).length, .inl (nf fi))) := k8 _ _ _ g4_na_fi (by simp; try omega)
      have kk5 : z_K (fun y => y = 4 ∨ y = 5) h h5 := kk4.tr k8
      refine W.eq (g2 := F0 m 77 ls []) rfl ?_
      have eF : O_5 = O ++ (betO S (some bi) fi) := by rw [← eO_5, ← eO_4, ← eO_3, ← eO_2, ← eO_1]; rw [eB]; unfold hdO; rw [eO9]; simp
      have eJ : jf j O_5.length = jf j (O ++ (betO S (some bi) fi)).length ∧ slj j O_5.length = slj j (O ++ (betO S (some bi) fi)).length := ⟨congrArg (fun x => jf j x.length) eF, congrArg (fun x => slj j x.length) eF⟩
      exact z_vret hx hb hr hlocks hw ⟨rfl, eF ▸ oh_5, kk5⟩ (by first | exact Nat.le_of_ble_eq_true rfl | (dsimp only; omega) | omega) (by first | exact Nat.le_of_ble_eq_true rfl | (dsimp only; omega) | omega) d_RecordWriter_putBetween_77
  · -- 12: False
    have c_12 : bi = fi := (nI_eq (a := bi) (b := fi) (by omega) (by omega)).mp c_12
    have eB : betO S (some bi) fi = [44] := if_pos c_12
    have lB := congrArg List.length eB
    simp only [List.length_append, List.length_cons, List.length_nil] at lB
    refine lv_aload_n hx hb d_RecordWriter_putBetween_15 rfl (lv_at hl 0 rfl) ?_
    refine z_get hx hb hts (z_lay i_RecordWriter) hown hK hw hwr rfl 2 (by decide) (z_in k_691 rfl) (fun _ h9 => h9) rfl d_RecordWriter_putBetween_16 ?_
    refine lv_bipush (v := 44) hx hb d_RecordWriter_putBetween_19 (by decide) ?_
    obtain ⟨ob_6, f_6, how_6, -⟩ := id hO
    have ln_6 : (O ++ ([44])).length = O.length + ([44]).length := List.length_append
    simp only [List.length_cons, List.length_nil] at ln_6
    have ma_6 := jf_mono j (show O.length ≤ (O ++ ([44])).length by omega)
    have mb_6 := jf_mono j (show (O ++ ([44])).length ≤ (O ++ (betO S (some bi) fi)).length by omega)
    refine z_callV (n := 1) (As := [.int 44]) (rest := []) ⟨hx, hb, hml, hown, hts⟩ (c_put2 (O := O) (b := 44) l g h hO ⟨by decide, by decide⟩ (by omega) hj) (z_in k_707 rfl) (z_in k_3 rfl) (z_in k_704 rfl) (z_in k_705 rfl) (z_in k_706 rfl) (by decide +kernel) ⟨by first | exact Nat.le_of_ble_eq_true rfl | (dsimp only; omega) | omega, by first | exact Nat.le_of_ble_eq_true rfl | (dsimp only; omega) | omega⟩ hK hE hw hA rfl how_6 rfl hl.1 (Nat.le_of_ble_eq_true rfl) d_RecordWriter_putBetween_21 ⟨by first | exact Nat.le_of_ble_eq_true rfl | (dsimp only; omega) | omega, by first | exact Nat.le_of_ble_eq_true rfl | (dsimp only; omega) | omega⟩ rfl (fun r9 h9 H locs hp hw => ?_)
    obtain ⟨r8, o8, k8⟩ := hp
    subst r8
    obtain ⟨h6, e7⟩ : ∃ x9, x9 = h9 := ⟨_, rfl⟩
    subst e7
    generalize eO_6 : O ++ ([44]) = O_6 at o8 ln_6 ma_6 mb_6 ⊢
    have oh_6 := o8
    have g6_wr : h6 wr = some ((9, 0), .inr (10, [.ref q, .ref nw, .ref ow])) := k8 _ _ _ hwr (by simp; try omega)
    have g6_adS_fi : h6 (adS fi) = some ((r + 1, fi), .inr (4, [.int (nI fi), .int (fKi (S.2 fi)), .int (fTy (S.2 fi)), .int (fGr (S.2 fi)), .ref (na fi), .int (fCo (S.2 fi)), .int (fRe (S.2 fi)), .int (fDe (S.2 fi)), .int (nI (rq S (nI fi)))])) := k8 _ _ _ hff9 (by simp; try omega)
    have g6_adS_bi : h6 (adS bi) = some ((r + 1, bi), .inr (4, [.int (nI bi), .int (fKi (S.2 bi)), .int (fTy (S.2 bi)), .int (fGr (S.2 bi)), .ref (na bi), .int (fCo (S.2 bi)), .int (fRe (S.2 bi)), .int (fDe (S.2 bi)), .int (nI (rq S (nI bi)))])) := k8 _ _ _ hfb9 (by simp; try omega)
    have g6_na_fi : h6 (na fi) = some ((r + 2, fi), .inl (g.2.1 0, (fNm (S.2 fi)).length, .inl (nf fi))) := k8 _ _ _ hnn9 (by simp; try omega)
    have kk6 : z_K (fun y => y = 4 ∨ y = 5) h h6 := kk0.tr k8
    refine W.eq (g2 := F0 m 24 ls []) rfl ?_
    have eF : O_6 = O ++ (betO S (some bi) fi) := by rw [← eO_6]; rw [eB]
    have eJ : jf j O_6.length = jf j (O ++ (betO S (some bi) fi)).length ∧ slj j O_6.length = slj j (O ++ (betO S (some bi) fi)).length := ⟨congrArg (fun x => jf j x.length) eF, congrArg (fun x => slj j x.length) eF⟩
    exact z_vret hx hb hr hlocks hw ⟨rfl, eF ▸ oh_6, kk6⟩ (by first | exact Nat.le_of_ble_eq_true rfl | (dsimp only; omega) | omega) (by first | exact Nat.le_of_ble_eq_true rfl | (dsimp only; omega) | omega) d_RecordWriter_putBetween_24

set_option maxHeartbeats 4000000 in
set_option maxRecDepth 100000 in
theorem c_putLeaf (l : Launch) (g : z_G) (h : z_H) {wr q nw ow j : Nat} {O : List Nat} {r : Nat} {S : Sch} {fa9 ca : Nat} {adS na : Nat → Nat} {ff : Nat → Option Nat} {cf : Nat → Int32} {nf : Nat → Nat → Int32} {mr : Nat} {R : Rec} {ra : Nat} {ad tx : Nat → Nat} {rf : Nat → Option Nat} {tf : Nat → Nat → Int32} {i fi : Nat} (hwr : h wr = some ((9, 0), .inr (10, [.ref q, .ref nw, .ref ow]))) (hO : OutB g h ow j O) (hj : j ≤ 8) (hlen : O.length + (leafO (R.2 i) (fTy (S.2 fi))).length ≤ 262144) (hS : SchP g h r q S fa9 ca adS na ff cf nf) (hN : NdP g h mr nw S R ra ad tx rf tf) (hr0 : 100 ≤ r) (hm2 : 12 ≤ mr) (hi9 : i < R.1) (hfi : fi < S.1) : z_C l y_RecordWriter_putLeaf prog_7_method_5_code 4 (Option.some Jvm.ClassFile.FieldType.int) 8 230 (jf j (O ++ (leafO (R.2 i) (fTy (S.2 fi)))).length - jf j O.length) (slj j (O ++ (leafO (R.2 i) (fTy (S.2 fi)))).length - slj j O.length) g [.ref wr, .int (nI i), .ref (ad i), .ref (adS fi)] h (fun x h1 => x = some (.int (nI (i + 1))) ∧ OutB g h1 ow j (O ++ (leafO (R.2 i) (fTy (S.2 fi)))) ∧ z_K (fun y => y = 4 ∨ y = 5) h h1) := by
  refine z_C.of (by decide) (Nat.le_of_ble_eq_true rfl) (fun pg en s m below meth cd A ls hx hb hml hr hts hown hlocks hnm hK hE hA hw hl => ?_)
  have hl : lv_has ls 4 [(0, .ref wr), (1, .int (nI i)), (2, .ref (ad i)), (3, .ref (adS fi))] := hl
  have lX : (O ++ (leafO (R.2 i) (fTy (S.2 fi)))).length = O.length + (leafO (R.2 i) (fTy (S.2 fi))).length := List.length_append
  have mX := jf_mono j (show O.length ≤ (O ++ (leafO (R.2 i) (fTy (S.2 fi)))).length by omega)
  have hni := (hN.2.2.1 i hi9).2
  have htx9 := hN.2.2.2.1 i hi9
  have hff9 := (hS.2.2.2.1 fi hfi).2
  have hs2 : R.1 ≤ 2000 := hN.2.2.2.2.2.1
  have kk0 : z_K (fun y => y = 4 ∨ y = 5) h h := z_K.rf
  refine lv_aload_n hx hb d_RecordWriter_putLeaf_0 rfl (lv_at hl 3 rfl) ?_
  refine z_getN hx hb hts (z_lay i_Field) hown hK hw hff9 rfl 2 (by decide) hE.nest (z_inN k_410 rfl) (fun _ h9 => h9) rfl d_RecordWriter_putLeaf_1 ?_
  refine lv_iconst (v := 3) hx hb d_RecordWriter_putLeaf_4 (by decide) ?_
  refine lv_icmp_ne (tgt := 19) hx hb d_RecordWriter_putLeaf_5 (by decide) (fun c_5 => ?_) (fun c_5 => ?_)
  · -- 5: True
    refine lv_aload_n hx hb d_RecordWriter_putLeaf_19 rfl (lv_at hl 3 rfl) ?_
    refine z_getN hx hb hts (z_lay i_Field) hown hK hw hff9 rfl 2 (by decide) hE.nest (z_inN k_410 rfl) (fun _ h9 => h9) rfl d_RecordWriter_putLeaf_20 ?_
    refine lv_if_ne (tgt := 49) hx hb d_RecordWriter_putLeaf_23 (by decide) (fun c_23 => ?_) (fun c_23 => ?_)
    · -- 23: True
      have eL : leafO (R.2 i) (fTy (S.2 fi)) = numO (ndNu (R.2 i)) := by unfold leafO; rw [if_neg c_5, if_neg c_23]
      have lL := congrArg List.length eL
      refine lv_aload_n hx hb d_RecordWriter_putLeaf_49 rfl (lv_at hl 0 rfl) ?_
      refine lv_aload_n hx hb d_RecordWriter_putLeaf_50 rfl (lv_at hl 2 rfl) ?_
      refine z_getN hx hb hts (z_lay i_Node) hown hK hw hni rfl 2 (by decide) hE.nest (z_inN k_108 rfl) (fun _ h9 => h9) rfl d_RecordWriter_putLeaf_51 ?_
      have ln_1 : (O ++ (numO (ndNu (R.2 i)))).length = O.length + (numO (ndNu (R.2 i))).length := List.length_append
      have ma_1 := jf_mono j (show O.length ≤ (O ++ (numO (ndNu (R.2 i)))).length by omega)
      have mb_1 := jf_mono j (show (O ++ (numO (ndNu (R.2 i)))).length ≤ (O ++ (leafO (R.2 i) (fTy (S.2 fi)))).length by omega)
      refine z_callV (n := 1) (As := [.long (ndNu (R.2 i))]) (rest := []) ⟨hx, hb, hml, hown, hts⟩ (c_putNumber (O := O) (v := ndNu (R.2 i)) l g h hwr hO hj (by omega)) (z_in k_751 rfl) (z_in k_19 rfl) (z_in k_748 rfl) (z_in k_750 rfl) (z_in ks_24 rfl) (by decide +kernel) ⟨by first | exact Nat.le_of_ble_eq_true rfl | (dsimp only; omega) | omega, by first | exact Nat.le_of_ble_eq_true rfl | (dsimp only; omega) | omega⟩ hK hE hw hA rfl hwr rfl hl.1 (Nat.le_of_ble_eq_true rfl) d_RecordWriter_putLeaf_54 ⟨by first | exact Nat.le_of_ble_eq_true rfl | (dsimp only; omega) | omega, by first | exact Nat.le_of_ble_eq_true rfl | (dsimp only; omega) | omega⟩ rfl (fun r9 h9 H locs hp hw => ?_)
      obtain ⟨r8, o8, k8⟩ := hp
      subst r8
      obtain ⟨h1, e7⟩ : ∃ x9, x9 = h9 := ⟨_, rfl⟩
      subst e7
      generalize eO_1 : O ++ (numO (ndNu (R.2 i))) = O_1 at o8 ln_1 ma_1 mb_1 ⊢
      have oh_1 := o8
      have g1_wr : h1 wr = some ((9, 0), .inr (10, [.ref q, .ref nw, .ref ow])) := k8 _ _ _ hwr (by simp; try omega)
      have g1_ad_i : h1 (ad i) = some ((mr + 1, i), .inr (6, [.int (ndFi (R.2 i)), .int (ndPa (R.2 i)), .long (ndNu (R.2 i)), .ref (tx i), .int (nI (chC R.2 (nI i) R.1)), .int (lfC R.2 (nI i) R.1), .int (nI (rtC S R.2 (nI i) R.1))])) := k8 _ _ _ hni (by simp; try omega)
      have g1_adS_fi : h1 (adS fi) = some ((r + 1, fi), .inr (4, [.int (nI fi), .int (fKi (S.2 fi)), .int (fTy (S.2 fi)), .int (fGr (S.2 fi)), .ref (na fi), .int (fCo (S.2 fi)), .int (fRe (S.2 fi)), .int (fDe (S.2 fi)), .int (nI (rq S (nI fi)))])) := k8 _ _ _ hff9 (by simp; try omega)
      have kk1 : z_K (fun y => y = 4 ∨ y = 5) h h1 := kk0.tr k8
      refine W.eq (g2 := F0 m 57 ls []) rfl ?_
      refine lv_iload_n hx hb d_RecordWriter_putLeaf_57 rfl (lv_at hl 1 rfl) ?_
      refine lv_iconst (v := 1) hx hb d_RecordWriter_putLeaf_58 (by decide) ?_
      refine lv_iadd hx hb d_RecordWriter_putLeaf_59 ?_
      refine z_topi (y := nI (i + 1)) (nI_add i 1) ?_
      have eF : O_1 = O ++ (leafO (R.2 i) (fTy (S.2 fi))) := by rw [← eO_1]; rw [eL]
      have eJ : jf j O_1.length = jf j (O ++ (leafO (R.2 i) (fTy (S.2 fi)))).length ∧ slj j O_1.length = slj j (O ++ (leafO (R.2 i) (fTy (S.2 fi)))).length := ⟨congrArg (fun x => jf j x.length) eF, congrArg (fun x => slj j x.length) eF⟩
      exact z_iret hx hb hr hlocks hw ⟨rfl, eF ▸ oh_1, kk1⟩ (by first | exact Nat.le_of_ble_eq_true rfl | (dsimp only; omega) | omega) (by first | exact Nat.le_of_ble_eq_true rfl | (dsimp only; omega) | omega) d_RecordWriter_putLeaf_60
    · -- 23: False
      refine lv_aload_n hx hb d_RecordWriter_putLeaf_26 rfl (lv_at hl 0 rfl) ?_
      refine lv_aload_n hx hb d_RecordWriter_putLeaf_27 rfl (lv_at hl 2 rfl) ?_
      refine z_getN hx hb hts (z_lay i_Node) hown hK hw hni rfl 2 (by decide) hE.nest (z_inN k_108 rfl) (fun _ h9 => h9) rfl d_RecordWriter_putLeaf_28 ?_
      refine lv_lconst (v := 0) hx hb d_RecordWriter_putLeaf_31 (by decide) ?_
      refine W.lcmp hx hb d_RecordWriter_putLeaf_32 ?_
      refine lv_if_eq (tgt := 41) hx hb d_RecordWriter_putLeaf_33 (by decide) (fun c_33 => ?_) (fun c_33 => ?_)
      · -- 33: True
        have c_33 : (ndNu (R.2 i) : Int64) = 0 := (lg_cmp_eq _ _).mp c_33
        have eL : leafO (R.2 i) (fTy (S.2 fi)) = wdO 9 := by unfold leafO; rw [if_neg c_5, if_pos c_23, if_pos c_33]
        have w9 := wdl_9
        have lL := congrArg List.length eL
        refine va_ldcS hx hb hown hE.2.2.2.2.2.1.2.2.2.1 d_RecordWriter_putLeaf_41 ?_
        have ln_2 : (O ++ (wdO 9)).length = O.length + (wdO 9).length := List.length_append
        have ma_2 := jf_mono j (show O.length ≤ (O ++ (wdO 9)).length by omega)
        have mb_2 := jf_mono j (show (O ++ (wdO 9)).length ≤ (O ++ (leafO (R.2 i) (fTy (S.2 fi)))).length by omega)
        refine z_callV (n := 1) (As := [.ref (g.2.2 (1 + 9))]) (rest := []) ⟨hx, hb, hml, hown, hts⟩ (c_putWord (O := O) (i := 9) l g h hwr hO hj (by have := wdO_len 9; omega) (by decide)) (z_in k_740 rfl) (z_in k_19 rfl) (z_in k_737 rfl) (z_in k_739 rfl) (z_in ks_23 rfl) (by decide +kernel) ⟨by first | exact Nat.le_of_ble_eq_true rfl | (dsimp only; omega) | omega, by first | exact Nat.le_of_ble_eq_true rfl | (dsimp only; omega) | omega⟩ hK hE hw hA rfl hwr rfl hl.1 (Nat.le_of_ble_eq_true rfl) d_RecordWriter_putLeaf_43 ⟨by first | exact Nat.le_of_ble_eq_true rfl | (dsimp only; omega) | omega, by first | exact Nat.le_of_ble_eq_true rfl | (dsimp only; omega) | omega⟩ rfl (fun r9 h9 H locs hp hw => ?_)
        obtain ⟨r8, o8, k8⟩ := hp
        subst r8
        obtain ⟨h2, e7⟩ : ∃ x9, x9 = h9 := ⟨_, rfl⟩
        subst e7
        generalize eO_2 : O ++ (wdO 9) = O_2 at o8 ln_2 ma_2 mb_2 ⊢
        have oh_2 := o8
        have g2_wr : h2 wr = some ((9, 0), .inr (10, [.ref q, .ref nw, .ref ow])) := k8 _ _ _ hwr (by simp; try omega)
        have g2_ad_i : h2 (ad i) = some ((mr + 1, i), .inr (6, [.int (ndFi (R.2 i)), .int (ndPa (R.2 i)), .long (ndNu (R.2 i)), .ref (tx i), .int (nI (chC R.2 (nI i) R.1)), .int (lfC R.2 (nI i) R.1), .int (nI (rtC S R.2 (nI i) R.1))])) := k8 _ _ _ hni (by simp; try omega)
        have g2_adS_fi : h2 (adS fi) = some ((r + 1, fi), .inr (4, [.int (nI fi), .int (fKi (S.2 fi)), .int (fTy (S.2 fi)), .int (fGr (S.2 fi)), .ref (na fi), .int (fCo (S.2 fi)), .int (fRe (S.2 fi)), .int (fDe (S.2 fi)), .int (nI (rq S (nI fi)))])) := k8 _ _ _ hff9 (by simp; try omega)
        have kk2 : z_K (fun y => y = 4 ∨ y = 5) h h2 := kk0.tr k8
        refine W.eq (g2 := F0 m 46 ls []) rfl ?_
        refine lv_goto (tgt := 57) hx hb d_RecordWriter_putLeaf_46 (by decide) ?_
        refine lv_iload_n hx hb d_RecordWriter_putLeaf_57 rfl (lv_at hl 1 rfl) ?_
        refine lv_iconst (v := 1) hx hb d_RecordWriter_putLeaf_58 (by decide) ?_
        refine lv_iadd hx hb d_RecordWriter_putLeaf_59 ?_
        refine z_topi (y := nI (i + 1)) (nI_add i 1) ?_
        have eF : O_2 = O ++ (leafO (R.2 i) (fTy (S.2 fi))) := by rw [← eO_2]; rw [eL]
        have eJ : jf j O_2.length = jf j (O ++ (leafO (R.2 i) (fTy (S.2 fi)))).length ∧ slj j O_2.length = slj j (O ++ (leafO (R.2 i) (fTy (S.2 fi)))).length := ⟨congrArg (fun x => jf j x.length) eF, congrArg (fun x => slj j x.length) eF⟩
        exact z_iret hx hb hr hlocks hw ⟨rfl, eF ▸ oh_2, kk2⟩ (by first | exact Nat.le_of_ble_eq_true rfl | (dsimp only; omega) | omega) (by first | exact Nat.le_of_ble_eq_true rfl | (dsimp only; omega) | omega) d_RecordWriter_putLeaf_60
      · -- 33: False
        have c_33 : ¬ ((ndNu (R.2 i) : Int64) = 0) := fun z => c_33 ((lg_cmp_eq _ _).mpr z)
        have eL : leafO (R.2 i) (fTy (S.2 fi)) = wdO 8 := by unfold leafO; rw [if_neg c_5, if_pos c_23, if_neg c_33]
        have w8 := wdl_8
        have lL := congrArg List.length eL
        refine va_ldcS hx hb hown hE.2.2.2.2.2.1.2.2.1 d_RecordWriter_putLeaf_36 ?_
        refine lv_goto (tgt := 43) hx hb d_RecordWriter_putLeaf_38 (by decide) ?_
        have ln_3 : (O ++ (wdO 8)).length = O.length + (wdO 8).length := List.length_append
        have ma_3 := jf_mono j (show O.length ≤ (O ++ (wdO 8)).length by omega)
        have mb_3 := jf_mono j (show (O ++ (wdO 8)).length ≤ (O ++ (leafO (R.2 i) (fTy (S.2 fi)))).length by omega)
        refine z_callV (n := 1) (As := [.ref (g.2.2 (1 + 8))]) (rest := []) ⟨hx, hb, hml, hown, hts⟩ (c_putWord (O := O) (i := 8) l g h hwr hO hj (by have := wdO_len 8; omega) (by decide)) (z_in k_740 rfl) (z_in k_19 rfl) (z_in k_737 rfl) (z_in k_739 rfl) (z_in ks_23 rfl) (by decide +kernel) ⟨by first | exact Nat.le_of_ble_eq_true rfl | (dsimp only; omega) | omega, by first | exact Nat.le_of_ble_eq_true rfl | (dsimp only; omega) | omega⟩ hK hE hw hA rfl hwr rfl hl.1 (Nat.le_of_ble_eq_true rfl) d_RecordWriter_putLeaf_43 ⟨by first | exact Nat.le_of_ble_eq_true rfl | (dsimp only; omega) | omega, by first | exact Nat.le_of_ble_eq_true rfl | (dsimp only; omega) | omega⟩ rfl (fun r9 h9 H locs hp hw => ?_)
        obtain ⟨r8, o8, k8⟩ := hp
        subst r8
        obtain ⟨h3, e7⟩ : ∃ x9, x9 = h9 := ⟨_, rfl⟩
        subst e7
        generalize eO_3 : O ++ (wdO 8) = O_3 at o8 ln_3 ma_3 mb_3 ⊢
        have oh_3 := o8
        have g3_wr : h3 wr = some ((9, 0), .inr (10, [.ref q, .ref nw, .ref ow])) := k8 _ _ _ hwr (by simp; try omega)
        have g3_ad_i : h3 (ad i) = some ((mr + 1, i), .inr (6, [.int (ndFi (R.2 i)), .int (ndPa (R.2 i)), .long (ndNu (R.2 i)), .ref (tx i), .int (nI (chC R.2 (nI i) R.1)), .int (lfC R.2 (nI i) R.1), .int (nI (rtC S R.2 (nI i) R.1))])) := k8 _ _ _ hni (by simp; try omega)
        have g3_adS_fi : h3 (adS fi) = some ((r + 1, fi), .inr (4, [.int (nI fi), .int (fKi (S.2 fi)), .int (fTy (S.2 fi)), .int (fGr (S.2 fi)), .ref (na fi), .int (fCo (S.2 fi)), .int (fRe (S.2 fi)), .int (fDe (S.2 fi)), .int (nI (rq S (nI fi)))])) := k8 _ _ _ hff9 (by simp; try omega)
        have kk3 : z_K (fun y => y = 4 ∨ y = 5) h h3 := kk0.tr k8
        refine W.eq (g2 := F0 m 46 ls []) rfl ?_
        refine lv_goto (tgt := 57) hx hb d_RecordWriter_putLeaf_46 (by decide) ?_
        refine lv_iload_n hx hb d_RecordWriter_putLeaf_57 rfl (lv_at hl 1 rfl) ?_
        refine lv_iconst (v := 1) hx hb d_RecordWriter_putLeaf_58 (by decide) ?_
        refine lv_iadd hx hb d_RecordWriter_putLeaf_59 ?_
        refine z_topi (y := nI (i + 1)) (nI_add i 1) ?_
        have eF : O_3 = O ++ (leafO (R.2 i) (fTy (S.2 fi))) := by rw [← eO_3]; rw [eL]
        have eJ : jf j O_3.length = jf j (O ++ (leafO (R.2 i) (fTy (S.2 fi)))).length ∧ slj j O_3.length = slj j (O ++ (leafO (R.2 i) (fTy (S.2 fi)))).length := ⟨congrArg (fun x => jf j x.length) eF, congrArg (fun x => slj j x.length) eF⟩
        exact z_iret hx hb hr hlocks hw ⟨rfl, eF ▸ oh_3, kk3⟩ (by first | exact Nat.le_of_ble_eq_true rfl | (dsimp only; omega) | omega) (by first | exact Nat.le_of_ble_eq_true rfl | (dsimp only; omega) | omega) d_RecordWriter_putLeaf_60
  · -- 5: False
    refine lv_aload_n hx hb d_RecordWriter_putLeaf_8 rfl (lv_at hl 0 rfl) ?_
    refine lv_aload_n hx hb d_RecordWriter_putLeaf_9 rfl (lv_at hl 2 rfl) ?_
    refine z_getN hx hb hts (z_lay i_Node) hown hK hw hni rfl 3 (by decide) hE.nest (z_inN k_111 rfl) (fun _ h9 => h9) rfl d_RecordWriter_putLeaf_10 ?_
    have eL : leafO (R.2 i) (fTy (S.2 fi)) = txO (ndTx (R.2 i)) := if_pos c_5
    have lL := congrArg List.length eL
    rcases htx9 with ⟨tx1, tx2⟩ | ⟨tx1, tx2, tx3⟩
    · -- text 0
      refine z_top (y := .ref (g.2.2 0)) (by rw [tx1]) ?_
      rw [tx2] at eL lL
      have ln_4 : (O ++ (txO [])).length = O.length + (txO []).length := List.length_append
      have ma_4 := jf_mono j (show O.length ≤ (O ++ (txO [])).length by omega)
      have mb_4 := jf_mono j (show (O ++ (txO [])).length ≤ (O ++ (leafO (R.2 i) (fTy (S.2 fi)))).length by omega)
      refine z_callV (n := 1) (As := [.ref (g.2.2 0)]) (rest := []) ⟨hx, hb, hml, hown, hts⟩ (c_putText0 (O := O) l g h hwr hO hj (by omega)) (z_in k_731 rfl) (z_in k_19 rfl) (z_in k_728 rfl) (z_in k_730 rfl) (z_in ks_21 rfl) (by decide +kernel) ⟨by first | exact Nat.le_of_ble_eq_true rfl | (dsimp only; omega) | omega, by first | exact Nat.le_of_ble_eq_true rfl | (dsimp only; omega) | omega⟩ hK hE hw hA rfl hwr rfl hl.1 (Nat.le_of_ble_eq_true rfl) d_RecordWriter_putLeaf_13 ⟨by first | exact Nat.le_of_ble_eq_true rfl | (dsimp only; omega) | omega, by first | exact Nat.le_of_ble_eq_true rfl | (dsimp only; omega) | omega⟩ rfl (fun r9 h9 H locs hp hw => ?_)
      obtain ⟨r8, o8, k8⟩ := hp
      subst r8
      obtain ⟨h4, e7⟩ : ∃ x9, x9 = h9 := ⟨_, rfl⟩
      subst e7
      generalize eO_4 : O ++ (txO []) = O_4 at o8 ln_4 ma_4 mb_4 ⊢
      have oh_4 := o8
      have g4_wr : h4 wr = some ((9, 0), .inr (10, [.ref q, .ref nw, .ref ow])) := k8 _ _ _ hwr (by simp; try omega)
      have g4_ad_i : h4 (ad i) = some ((mr + 1, i), .inr (6, [.int (ndFi (R.2 i)), .int (ndPa (R.2 i)), .long (ndNu (R.2 i)), .ref (tx i), .int (nI (chC R.2 (nI i) R.1)), .int (lfC R.2 (nI i) R.1), .int (nI (rtC S R.2 (nI i) R.1))])) := k8 _ _ _ hni (by simp; try omega)
      have g4_adS_fi : h4 (adS fi) = some ((r + 1, fi), .inr (4, [.int (nI fi), .int (fKi (S.2 fi)), .int (fTy (S.2 fi)), .int (fGr (S.2 fi)), .ref (na fi), .int (fCo (S.2 fi)), .int (fRe (S.2 fi)), .int (fDe (S.2 fi)), .int (nI (rq S (nI fi)))])) := k8 _ _ _ hff9 (by simp; try omega)
      have kk4 : z_K (fun y => y = 4 ∨ y = 5) h h4 := kk0.tr k8
      refine W.eq (g2 := F0 m 16 ls []) rfl ?_
      refine lv_goto (tgt := 57) hx hb d_RecordWriter_putLeaf_16 (by decide) ?_
      refine lv_iload_n hx hb d_RecordWriter_putLeaf_57 rfl (lv_at hl 1 rfl) ?_
      refine lv_iconst (v := 1) hx hb d_RecordWriter_putLeaf_58 (by decide) ?_
      refine lv_iadd hx hb d_RecordWriter_putLeaf_59 ?_
      refine z_topi (y := nI (i + 1)) (nI_add i 1) ?_
      have eF : O_4 = O ++ (leafO (R.2 i) (fTy (S.2 fi))) := by rw [← eO_4]; rw [eL]
      have eJ : jf j O_4.length = jf j (O ++ (leafO (R.2 i) (fTy (S.2 fi)))).length ∧ slj j O_4.length = slj j (O ++ (leafO (R.2 i) (fTy (S.2 fi)))).length := ⟨congrArg (fun x => jf j x.length) eF, congrArg (fun x => slj j x.length) eF⟩
      exact z_iret hx hb hr hlocks hw ⟨rfl, eF ▸ oh_4, kk4⟩ (by first | exact Nat.le_of_ble_eq_true rfl | (dsimp only; omega) | omega) (by first | exact Nat.le_of_ble_eq_true rfl | (dsimp only; omega) | omega) d_RecordWriter_putLeaf_60
    · -- text T
      have ln_5 : (O ++ (txO (ndTx (R.2 i)))).length = O.length + (txO (ndTx (R.2 i))).length := List.length_append
      have ma_5 := jf_mono j (show O.length ≤ (O ++ (txO (ndTx (R.2 i)))).length by omega)
      have mb_5 := jf_mono j (show (O ++ (txO (ndTx (R.2 i)))).length ≤ (O ++ (leafO (R.2 i) (fTy (S.2 fi)))).length by omega)
      refine z_callV (n := 1) (As := [.ref (tx i)]) (rest := []) ⟨hx, hb, hml, hown, hts⟩ (c_putTextT (O := O) (lq := ndTx (R.2 i)) l g h hwr tx1 hO hj (by omega) ⟨by dsimp only; omega, by dsimp only; omega⟩ ⟨by omega, tx3⟩) (z_in k_731 rfl) (z_in k_19 rfl) (z_in k_728 rfl) (z_in k_730 rfl) (z_in ks_21 rfl) (by decide +kernel) ⟨by first | exact Nat.le_of_ble_eq_true rfl | (dsimp only; omega) | omega, by first | exact Nat.le_of_ble_eq_true rfl | (dsimp only; omega) | omega⟩ hK hE hw hA rfl hwr rfl hl.1 (Nat.le_of_ble_eq_true rfl) d_RecordWriter_putLeaf_13 ⟨by first | exact Nat.le_of_ble_eq_true rfl | (dsimp only; omega) | omega, by first | exact Nat.le_of_ble_eq_true rfl | (dsimp only; omega) | omega⟩ rfl (fun r9 h9 H locs hp hw => ?_)
      obtain ⟨r8, o8, k8⟩ := hp
      subst r8
      obtain ⟨h5, e7⟩ : ∃ x9, x9 = h9 := ⟨_, rfl⟩
      subst e7
      generalize eO_5 : O ++ (txO (ndTx (R.2 i))) = O_5 at o8 ln_5 ma_5 mb_5 ⊢
      have oh_5 := o8
      have g5_wr : h5 wr = some ((9, 0), .inr (10, [.ref q, .ref nw, .ref ow])) := k8 _ _ _ hwr (by simp; try omega)
      have g5_ad_i : h5 (ad i) = some ((mr + 1, i), .inr (6, [.int (ndFi (R.2 i)), .int (ndPa (R.2 i)), .long (ndNu (R.2 i)), .ref (tx i), .int (nI (chC R.2 (nI i) R.1)), .int (lfC R.2 (nI i) R.1), .int (nI (rtC S R.2 (nI i) R.1))])) := k8 _ _ _ hni (by simp; try omega)
      have g5_adS_fi : h5 (adS fi) = some ((r + 1, fi), .inr (4, [.int (nI fi), .int (fKi (S.2 fi)), .int (fTy (S.2 fi)), .int (fGr (S.2 fi)), .ref (na fi), .int (fCo (S.2 fi)), .int (fRe (S.2 fi)), .int (fDe (S.2 fi)), .int (nI (rq S (nI fi)))])) := k8 _ _ _ hff9 (by simp; try omega)
      have g5_tx_i : h5 (tx i) = some ((mr + 2, i), .inl (g.2.1 0, (ndTx (R.2 i)).length, .inl (tf i))) := k8 _ _ _ tx1 (by simp; try omega)
      have kk5 : z_K (fun y => y = 4 ∨ y = 5) h h5 := kk0.tr k8
      refine W.eq (g2 := F0 m 16 ls []) rfl ?_
      refine lv_goto (tgt := 57) hx hb d_RecordWriter_putLeaf_16 (by decide) ?_
      refine lv_iload_n hx hb d_RecordWriter_putLeaf_57 rfl (lv_at hl 1 rfl) ?_
      refine lv_iconst (v := 1) hx hb d_RecordWriter_putLeaf_58 (by decide) ?_
      refine lv_iadd hx hb d_RecordWriter_putLeaf_59 ?_
      refine z_topi (y := nI (i + 1)) (nI_add i 1) ?_
      have eF : O_5 = O ++ (leafO (R.2 i) (fTy (S.2 fi))) := by rw [← eO_5]; rw [eL]
      have eJ : jf j O_5.length = jf j (O ++ (leafO (R.2 i) (fTy (S.2 fi)))).length ∧ slj j O_5.length = slj j (O ++ (leafO (R.2 i) (fTy (S.2 fi)))).length := ⟨congrArg (fun x => jf j x.length) eF, congrArg (fun x => slj j x.length) eF⟩
      exact z_iret hx hb hr hlocks hw ⟨rfl, eF ▸ oh_5, kk5⟩ (by first | exact Nat.le_of_ble_eq_true rfl | (dsimp only; omega) | omega) (by first | exact Nat.le_of_ble_eq_true rfl | (dsimp only; omega) | omega) d_RecordWriter_putLeaf_60

set_option maxHeartbeats 4000000 in
set_option maxRecDepth 100000 in
theorem c_RecordWriter_init (l : Launch) (g : z_G) (h : z_H) {wr q nw ow : Nat} (hwr : h wr = some ((9, 0), .inr (10, [.null, .null, .null])))  : z_C l y_RecordWriter_init prog_7_method_1_code 4 (Option.none : Option Jvm.ClassFile.FieldType) 1 12 0 0 g [.ref wr, .ref q, .ref nw, .ref ow] h (fun x h1 => x = none ∧ z_put h wr (9, 0) (.inr (10, [.ref q, .ref nw, .ref ow])) = h1) := by
  refine z_C.of (by decide) (Nat.le_of_ble_eq_true rfl) (fun pg en s m below meth cd A ls hx hb hml hr hts hown hlocks hnm hK hE hA hw hl => ?_)
  have hl : lv_has ls 4 [(0, .ref wr), (1, .ref q), (2, .ref nw), (3, .ref ow)] := hl
  refine lv_aload_n hx hb d_RecordWriter_init_0 rfl (lv_at hl 0 rfl) ?_
  refine W.objInit hx hb hown (hts _ (z_in k_688 rfl)) (hts _ (z_in k_26 rfl)) (hts _ (z_in k_27 rfl)) rfl (by rw [hml]; exact hl.1) rfl d_RecordWriter_init_1 (Nat.le_of_ble_eq_true rfl) (Nat.le_of_ble_eq_true rfl) ?_
  refine W.eq (g2 := F0 m 4 ls []) rfl ?_
  refine lv_aload_n hx hb d_RecordWriter_init_4 rfl (lv_at hl 0 rfl) ?_
  refine lv_aload_n hx hb d_RecordWriter_init_5 rfl (lv_at hl 1 rfl) ?_
  refine z_putF (ty := .object "SchemaRecords$Schema") hx hb hts (z_lay i_RecordWriter) t_RecordWriter t_RecordWriter_ok n_RecordWriter hown hK hw hwr rfl 0 (by decide) (z_in k_689 rfl) (fun _ h9 => h9) rfl hnm rfl (by decide +kernel) rfl rfl (Nat.le_of_ble_eq_true rfl) d_RecordWriter_init_6 (fun H locs hw => ?_)
  obtain ⟨h1, hh1⟩ : ∃ x9, z_put h wr (9, 0) (.inr (10, [.ref q, .null, .null])) = x9 := ⟨_, rfl⟩
  have hw : z_S g A s.heap h1 H locs := by rw [← hh1]; exact hw
  have f1_wr : h1 wr = some ((9, 0), .inr (10, [.ref q, .null, .null])) := by rw [← hh1]; exact z_put_eq
  refine lv_aload_n hx hb d_RecordWriter_init_9 rfl (lv_at hl 0 rfl) ?_
  refine lv_aload_n hx hb d_RecordWriter_init_10 rfl (lv_at hl 2 rfl) ?_
  refine z_putF (ty := .object "SchemaRecords$NodeRow") hx hb hts (z_lay i_RecordWriter) t_RecordWriter t_RecordWriter_ok n_RecordWriter hown hK hw f1_wr rfl 1 (by decide) (z_in k_690 rfl) (fun _ h9 => h9) rfl hnm rfl (by decide +kernel) rfl rfl (Nat.le_of_ble_eq_true rfl) d_RecordWriter_init_11 (fun H locs hw => ?_)
  obtain ⟨h2, hh2⟩ : ∃ x9, z_put h1 wr (9, 0) (.inr (10, [.ref q, .ref nw, .null])) = x9 := ⟨_, rfl⟩
  have hw : z_S g A s.heap h2 H locs := by rw [← hh2]; exact hw
  have f2_wr : h2 wr = some ((9, 0), .inr (10, [.ref q, .ref nw, .null])) := by rw [← hh2]; exact z_put_eq
  refine lv_aload_n hx hb d_RecordWriter_init_14 rfl (lv_at hl 0 rfl) ?_
  refine lv_aload_n hx hb d_RecordWriter_init_15 rfl (lv_at hl 3 rfl) ?_
  refine z_putF (ty := .object "SchemaRecords$ByteRow") hx hb hts (z_lay i_RecordWriter) t_RecordWriter t_RecordWriter_ok n_RecordWriter hown hK hw f2_wr rfl 2 (by decide) (z_in k_691 rfl) (fun _ h9 => h9) rfl hnm rfl (by decide +kernel) rfl rfl (Nat.le_of_ble_eq_true rfl) d_RecordWriter_init_16 (fun H locs hw => ?_)
  obtain ⟨h3, hh3⟩ : ∃ x9, z_put h2 wr (9, 0) (.inr (10, [.ref q, .ref nw, .ref ow])) = x9 := ⟨_, rfl⟩
  have hw : z_S g A s.heap h3 H locs := by rw [← hh3]; exact hw
  have f3_wr : h3 wr = some ((9, 0), .inr (10, [.ref q, .ref nw, .ref ow])) := by rw [← hh3]; exact z_put_eq
  exact z_vret hx hb hr hlocks hw ⟨rfl, by rw [← hh3, ← hh2, ← hh1, z_put_put, z_put_put]⟩ (by decide) (by decide) d_RecordWriter_init_19
